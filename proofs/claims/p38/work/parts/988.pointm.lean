/-! A TEXT: the model reads a point -/
def sp_body (b : Nat → Int32) (n p : Nat) (polar : Bool) (A : sp_A) : Nat ⊕ (Nat × sp_A) := if A.1.1 ≠ 0 ∧ A.2.1 (A.1.1 - 1) ≠ 12 then sp_then (sp_num b n true (sp_low A) 359 (p + 1)) fun q y => sp_pass b n 44 q fun q => if polar = false then sp_hours b n q y A else sp_kind b n q y A else .inl p
theorem mt_point_1 {g : aa_G} {b : Nat → Int32} {n p : Nat} {z : Int32} {A : sp_A} (h : tm_ok g b n) (hA : mv0 g A) (hp : p < n) : zz_fin none 174 (0, zz_in [.ref 540, .int 1] (zz_nl 174), [], aa_H (tm_at g p z)) (mt_res g n (sp_q b n (sp_body b n p true A))) := by
  have h0 : tm_at g p z 541 0 = Int32.ofNat A.1.1 := hA.1
  have h4 := hA.2.1
  unfold sp_body
  refine zz_fin.steps (n := 6) (s' := (8, [some (.ref 540), some (.int 1), none, none, none], [.int (((tm_at g p z) 541 0) - 1)], aa_H (tm_at g p z))) rfl ?_
  rw [h0]
  by_cases e0 : A.1.1 = 0
  · rw [if_neg fun e => e.1 e0, show Int32.ofNat A.1.1 - 1 = -1 by rw [e0]; rfl]
    refine zz_fin.steps (n := 2) (s' := (10, [some (.ref 540), some (.int 1), some (.int (-1)), none, none], [.int (-1)], aa_H (tm_at g p z))) rfl ?_
    refine zz_fin.if rfl (fun cz => ?_) (fun cz => absurd rfl cz)
    refine zz_fin.steps (n := 3) (s' := (34, [some (.ref 540), some (.int 1), some (.int (-1)), none, none], [.int (Int32.ofNat p), .ref 540], aa_H (tm_at g p z))) rfl ?_
    refine zz_fin.call rfl rfl (Nat.le_of_ble_eq_true rfl) (tm_fails _) ?_
    rintro v h ⟨rfl, rfl⟩
    exact zz_fin.at (n := 1) rfl (.inl ⟨p, rfl, rfl, _, rfl, mt_fr.rf.bad hA.2.1 hA.1 (tm_bad_of g p z p)⟩)
  · rw [aa_pred e0 (by omega)]
    obtain ⟨hT1, hT2, hT3, hT4⟩ := hA.2.2 (A.1.1 - 1) (by omega)
    refine zz_fin.steps (n := 2) (s' := (10, [some (.ref 540), some (.int 1), some (.int (Int32.ofNat (A.1.1 - 1))), none, none], [.int (Int32.ofNat (A.1.1 - 1))], aa_H (tm_at g p z))) rfl ?_
    refine zz_fin.if rfl (fun cz => ?_) (fun cz => ?_)
    · have c : (Int32.ofNat (A.1.1 - 1)).toInt < 0 := aa_lt32.mp (of_decide_eq_true cz)
      rw [zz_ofN (by omega)] at c
      omega
    · refine zz_fin.steps (n := 3) (s' := (18, [some (.ref 540), some (.int 1), some (.int (Int32.ofNat (A.1.1 - 1))), none, none], [.int (Int32.ofNat (A.1.1 - 1)), .ref 541], aa_H (tm_at g p z))) rfl ?_
      refine zz_fin.call rfl rfl (Nat.le_of_ble_eq_true rfl) (tab_all (t := A.1.1 - 1)) ?_
      rintro v h ⟨rfl, rfl⟩
      refine zz_fin.steps (n := 2) (s' := (23, [some (.ref 540), some (.int 1), some (.int (Int32.ofNat (A.1.1 - 1))), none, none], [.int ((Int32.ofNat (3 + 50 * (A.1.1 - 1))) + 1), .ref 541], aa_H (tm_at g p z))) rfl ?_
      rw [aa_succ]
      refine zz_fin.ial (n := 6384) rfl rfl (zz_inbN (by omega) (by omega)) ?_
      rw [zz_toN (by omega), show (aa_H (tm_at g p z)).2.2 541 (3 + 50 * (A.1.1 - 1) + 1) = Int32.ofNat (A.2.1 (A.1.1 - 1)) from hT2]
      refine zz_fin.steps (n := 1) (s' := (26, [some (.ref 540), some (.int 1), some (.int (Int32.ofNat (A.1.1 - 1))), none, none], [.int 12, .int (Int32.ofNat (A.2.1 (A.1.1 - 1)))], aa_H (tm_at g p z))) rfl ?_
      refine zz_fin.ic rfl (fun c1 => ?_) (fun c1 => ?_)
      · have c1 : Int32.ofNat (A.2.1 (A.1.1 - 1)) ≠ 12 := of_decide_eq_true c1
        have c1 : A.2.1 (A.1.1 - 1) ≠ 12 := fun e => c1 (by rw [e]; rfl)
        rw [if_pos ⟨e0, c1⟩]
        refine zz_fin.steps (n := 5) (s' := (45, [some (.ref 540), some (.int 1), some (.int (Int32.ofNat (A.1.1 - 1))), none, none], [.int ((Int32.ofNat p) + 1), .ref 540], aa_H (tm_at g p z))) rfl ?_
        rw [aa_succ]
        refine zz_fin.steps (n := 1) (s' := (48, [some (.ref 540), some (.int 1), some (.int (Int32.ofNat (A.1.1 - 1))), none, none], [], aa_H (zz_w (tm_at g p z) 540 5 (Int32.ofNat (p + 1))))) rfl ?_
        rw [tm_inc]
        refine zz_fin.steps (n := 3) (s' := (53, [some (.ref 540), some (.int 1), some (.int (Int32.ofNat (A.1.1 - 1))), none, none], [.int (Int32.ofNat (A.1.1 - 1)), .ref 541], aa_H (tm_at g (p + 1) z))) rfl ?_
        refine zz_fin.call rfl rfl (Nat.le_of_ble_eq_true rfl) (tab_all (t := A.1.1 - 1)) ?_
        rintro v h ⟨rfl, rfl⟩
        refine zz_fin.steps (n := 2) (s' := (58, [some (.ref 540), some (.int 1), some (.int (Int32.ofNat (A.1.1 - 1))), none, none], [.int ((Int32.ofNat (3 + 50 * (A.1.1 - 1))) + 1), .ref 541], aa_H (tm_at g (p + 1) z))) rfl ?_
        rw [aa_succ]
        refine zz_fin.ial (n := 6384) rfl rfl (zz_inbN (by omega) (by omega)) ?_
        rw [zz_toN (by omega), show (aa_H (tm_at g (p + 1) z)).2.2 541 (3 + 50 * (A.1.1 - 1) + 1) = Int32.ofNat (A.2.1 (A.1.1 - 1)) from hT2]
        refine zz_fin.steps (n := 3) (s' := (62, [some (.ref 540), some (.int 1), some (.int (Int32.ofNat (A.1.1 - 1))), some (.int (Int32.ofNat (A.2.1 (A.1.1 - 1)))), none], [.int (Int32.ofNat (A.2.1 (A.1.1 - 1))), .int (Int32.ofNat (A.1.1 - 1))], aa_H (tm_at g (p + 1) z))) rfl ?_
        refine zz_fin.call rfl rfl (Nat.le_of_ble_eq_true rfl) (at_all (t := A.1.1 - 1) (i := A.2.1 (A.1.1 - 1))) ?_
        rintro v h ⟨rfl, rfl⟩
        refine zz_fin.steps (n := 3) (s' := (69, [some (.ref 540), some (.int 1), some (.int (Int32.ofNat (A.1.1 - 1))), some (.int (Int32.ofNat (A.2.1 (A.1.1 - 1)))), some (.int (Int32.ofNat (5 + 50 * (A.1.1 - 1) + 4 * A.2.1 (A.1.1 - 1))))], [.int (Int32.ofNat (A.2.1 (A.1.1 - 1))), .ref 540], aa_H (tm_at g (p + 1) z))) rfl ?_
        have key : zz_fin none 174 (87, [some (.ref 540), some (.int 1), some (.int (Int32.ofNat (A.1.1 - 1))), some (.int (Int32.ofNat (A.2.1 (A.1.1 - 1)))), some (.int (Int32.ofNat (5 + 50 * (A.1.1 - 1) + 4 * A.2.1 (A.1.1 - 1))))], [.int (sp_low A), .ref 540], aa_H (tm_at g (p + 1) z)) (mt_res g n (sp_q b n (sp_then (sp_num b n true (sp_low A) 359 (p + 1)) fun q y => sp_pass b n 44 q fun q => if true = false then sp_hours b n q y A else sp_kind b n q y A))) := by
          generalize sp_low A = LOW
          refine zz_fin.steps (n := 1) (s' := (90, [some (.ref 540), some (.int 1), some (.int (Int32.ofNat (A.1.1 - 1))), some (.int (Int32.ofNat (A.2.1 (A.1.1 - 1)))), some (.int (Int32.ofNat (5 + 50 * (A.1.1 - 1) + 4 * A.2.1 (A.1.1 - 1))))], [.int 359, .int LOW, .ref 540], aa_H (tm_at g (p + 1) z))) rfl ?_
          refine zz_fin.call rfl rfl (Nat.le_of_ble_eq_true rfl) (tm_signed h (p := p + 1) hp) ?_
          rintro v h (⟨f, hf, rfl, g', rfl, hg⟩ | ⟨q, y, hq, rfl, rfl⟩)
          · rw [hf]
            refine zz_fin.if rfl (fun cz => ?_) (fun cz => zc_no0 cz)
            refine zz_fin.steps (n := 1) (s' := (133, [some (.ref 540), some (.int 1), some (.int (Int32.ofNat (A.1.1 - 1))), some (.int (Int32.ofNat (A.2.1 (A.1.1 - 1)))), some (.int (Int32.ofNat (5 + 50 * (A.1.1 - 1) + 4 * A.2.1 (A.1.1 - 1))))], [.int 0], aa_H (g'))) rfl ?_
            exact zz_fin.at (n := 1) rfl (.inl ⟨f, rfl, rfl, g', rfl, mt_fr.rf.bad hA.2.1 (by first | exact hA.1 | exact (aa_w_ne _ _ (by omega)).trans hA.1 | (rw [aa_w_ne _ _ (by omega), aa_w_ne _ _ (by omega), aa_w_ne _ _ (by omega), aa_w_ne _ _ (by omega)]; exact hA.1)) hg⟩)
          · rw [hq]
            have hqn := sp_num_n hq hp
            unfold sp_then sp_pass
            dsimp only
            refine zz_fin.if rfl (fun cz => zc_no1 cz) (fun cz => ?_)
            refine zz_fin.steps (n := 2) (s' := (99, [some (.ref 540), some (.int 1), some (.int (Int32.ofNat (A.1.1 - 1))), some (.int (Int32.ofNat (A.2.1 (A.1.1 - 1)))), some (.int (Int32.ofNat (5 + 50 * (A.1.1 - 1) + 4 * A.2.1 (A.1.1 - 1))))], [.int (Int32.ofNat (5 + 50 * (A.1.1 - 1) + 4 * A.2.1 (A.1.1 - 1))), .ref 540], aa_H (tm_at g q y))) rfl ?_
            refine zz_fin.call (ψ := fun v h' => v = some (.int 1) ∧ h' = aa_H (tm_at (zz_w g 541 (5 + 50 * (A.1.1 - 1) + 4 * A.2.1 (A.1.1 - 1)) y) q y)) rfl rfl (Nat.le_of_ble_eq_true rfl) ?_ ?_
            · refine zz_fin.steps (n := 5) (s' := (9, [some (.ref 540), some (.int (Int32.ofNat (5 + 50 * (A.1.1 - 1) + 4 * A.2.1 (A.1.1 - 1))))], [.int y, .int (Int32.ofNat (5 + 50 * (A.1.1 - 1) + 4 * A.2.1 (A.1.1 - 1))), .ref 541], aa_H (tm_at g q y))) rfl ?_
              refine zz_fin.ias (n := 6384) rfl rfl (zz_inbN (by omega) (by omega)) ?_
              rw [zz_toN (by omega)]
              refine zz_fin.at (n := 2) rfl ⟨rfl, ?_⟩
              exact congrArg aa_H (tm_comm _ _ _ (by decide))
            rintro v h' ⟨rfl, rfl⟩
            refine zz_fin.if rfl (fun cz => zc_no1 cz) (fun cz => ?_)
            refine zz_fin.steps (n := 2) (s' := (108, [some (.ref 540), some (.int 1), some (.int (Int32.ofNat (A.1.1 - 1))), some (.int (Int32.ofNat (A.2.1 (A.1.1 - 1)))), some (.int (Int32.ofNat (5 + 50 * (A.1.1 - 1) + 4 * A.2.1 (A.1.1 - 1))))], [.int 44, .ref 540], aa_H (tm_at (zz_w g 541 (5 + 50 * (A.1.1 - 1) + 4 * A.2.1 (A.1.1 - 1)) y) q y))) rfl ?_
            refine zz_fin.call rfl rfl (Nat.le_of_ble_eq_true rfl) (tm_takes (g := zz_w g 541 (5 + 50 * (A.1.1 - 1) + 4 * A.2.1 (A.1.1 - 1)) y) h hqn.1 (by decide)) ?_
            rintro v h (⟨rfl, hs, hqn2, rfl⟩ | ⟨rfl, hs, g', rfl, hg⟩)
            · rw [if_pos hs]
              refine zz_fin.if rfl (fun cz => zc_no1 cz) (fun cz => ?_)
              refine zz_fin.steps (n := 3) (s' := (117, [some (.ref 540), some (.int 1), some (.int (Int32.ofNat (A.1.1 - 1))), some (.int (Int32.ofNat (A.2.1 (A.1.1 - 1)))), some (.int (Int32.ofNat (5 + 50 * (A.1.1 - 1) + 4 * A.2.1 (A.1.1 - 1))))], [.int 1, .int 0, .ref 540], aa_H (tm_at (zz_w g 541 (5 + 50 * (A.1.1 - 1) + 4 * A.2.1 (A.1.1 - 1)) y) (q + 1) y))) rfl ?_
              refine zz_fin.if rfl (fun cz => zc_no1 cz) (fun cz => ?_)
              refine zz_fin.steps (n := 2) (s' := (126, [some (.ref 540), some (.int 1), some (.int (Int32.ofNat (A.1.1 - 1))), some (.int (Int32.ofNat (A.2.1 (A.1.1 - 1)))), some (.int (Int32.ofNat (5 + 50 * (A.1.1 - 1) + 4 * A.2.1 (A.1.1 - 1))))], [.int 1, .int 0, .ref 540], aa_H (tm_at (zz_w g 541 (5 + 50 * (A.1.1 - 1) + 4 * A.2.1 (A.1.1 - 1)) y) (q + 1) y))) rfl ?_
              rw [if_neg (show ¬ (true = false) by decide)]
              unfold sp_kind sp_then
              refine zz_fin.call rfl rfl (Nat.le_of_ble_eq_true rfl) (tm_signed (g := zz_w g 541 (5 + 50 * (A.1.1 - 1) + 4 * A.2.1 (A.1.1 - 1)) y) h (p := q + 1) hqn2) ?_
              rintro v h (⟨f, hf, rfl, g', rfl, hg⟩ | ⟨q2, d, hq2, rfl, rfl⟩)
              · rw [hf]
                refine zz_fin.if rfl (fun cz => absurd cz (by decide)) (fun cz => ?_)
                refine zz_fin.steps (n := 1) (s' := (133, [some (.ref 540), some (.int 1), some (.int (Int32.ofNat (A.1.1 - 1))), some (.int (Int32.ofNat (A.2.1 (A.1.1 - 1)))), some (.int (Int32.ofNat (5 + 50 * (A.1.1 - 1) + 4 * A.2.1 (A.1.1 - 1))))], [.int 0], aa_H (g'))) rfl ?_
                exact zz_fin.at (n := 1) rfl (.inl ⟨f, rfl, rfl, g', rfl, (mt_fr.w (v := y) (j := 5 + 50 * (A.1.1 - 1) + 4 * A.2.1 (A.1.1 - 1)) (by omega)).bad hA.2.1 (by first | exact hA.1 | exact (aa_w_ne _ _ (by omega)).trans hA.1 | (rw [aa_w_ne _ _ (by omega), aa_w_ne _ _ (by omega), aa_w_ne _ _ (by omega), aa_w_ne _ _ (by omega)]; exact hA.1)) hg⟩)
              · rw [hq2]
                have hqn3 := sp_num_n hq2 hqn2
                dsimp only
                refine zz_fin.if rfl (fun cz => ?_) (fun cz => absurd rfl cz)
                refine zz_fin.steps (n := 1) (s' := (135, [some (.ref 540), some (.int 1), some (.int (Int32.ofNat (A.1.1 - 1))), some (.int (Int32.ofNat (A.2.1 (A.1.1 - 1)))), some (.int (Int32.ofNat (5 + 50 * (A.1.1 - 1) + 4 * A.2.1 (A.1.1 - 1))))], [.int 1], aa_H (tm_at (zz_w g 541 (5 + 50 * (A.1.1 - 1) + 4 * A.2.1 (A.1.1 - 1)) y) q2 d))) rfl ?_
                refine zz_fin.if rfl (fun cz => zc_no1 cz) (fun cz => ?_)
                refine zz_fin.steps (n := 6) (s' := (147, [some (.ref 540), some (.int 1), some (.int (Int32.ofNat (A.1.1 - 1))), some (.int (Int32.ofNat (A.2.1 (A.1.1 - 1)))), some (.int (Int32.ofNat (5 + 50 * (A.1.1 - 1) + 4 * A.2.1 (A.1.1 - 1))))], [.int d, .int (-1), .int (-1), .int (Int32.ofNat (5 + 50 * (A.1.1 - 1) + 4 * A.2.1 (A.1.1 - 1))), .ref 540], aa_H (tm_at (zz_w g 541 (5 + 50 * (A.1.1 - 1) + 4 * A.2.1 (A.1.1 - 1)) y) q2 d))) rfl ?_
                refine zz_fin.call rfl rfl (Nat.le_of_ble_eq_true rfl) (point_lay (P := 5 + 50 * (A.1.1 - 1) + 4 * A.2.1 (A.1.1 - 1)) (by omega)) ?_
                rintro v h ⟨rfl, rfl⟩
                rw [tm_comm _ _ _ (by decide), tm_comm _ _ _ (by decide), tm_comm _ _ _ (by decide)]
                have hfr3 : mt_fr g (zz_w (zz_w (zz_w (zz_w g 541 (5 + 50 * (A.1.1 - 1) + 4 * A.2.1 (A.1.1 - 1)) y) 541 (5 + 50 * (A.1.1 - 1) + 4 * A.2.1 (A.1.1 - 1) + 1) (-1)) 541 (5 + 50 * (A.1.1 - 1) + 4 * A.2.1 (A.1.1 - 1) + 2) (-1)) 541 (5 + 50 * (A.1.1 - 1) + 4 * A.2.1 (A.1.1 - 1) + 3) d) := (((mt_fr.w (v := y) (j := 5 + 50 * (A.1.1 - 1) + 4 * A.2.1 (A.1.1 - 1)) (by omega)).tr (mt_fr.w (by omega))).tr (mt_fr.w (by omega))).tr (mt_fr.w (by omega))
                refine zz_fin.steps (n := 4) (s' := (214, [some (.ref 540), some (.int 1), some (.int (Int32.ofNat (A.1.1 - 1))), some (.int (Int32.ofNat (A.2.1 (A.1.1 - 1)))), some (.int (Int32.ofNat (5 + 50 * (A.1.1 - 1) + 4 * A.2.1 (A.1.1 - 1))))], [.int (Int32.ofNat (A.1.1 - 1)), .ref 541], aa_H (tm_at (zz_w (zz_w (zz_w (zz_w g 541 (5 + 50 * (A.1.1 - 1) + 4 * A.2.1 (A.1.1 - 1)) y) 541 (5 + 50 * (A.1.1 - 1) + 4 * A.2.1 (A.1.1 - 1) + 1) (-1)) 541 (5 + 50 * (A.1.1 - 1) + 4 * A.2.1 (A.1.1 - 1) + 2) (-1)) 541 (5 + 50 * (A.1.1 - 1) + 4 * A.2.1 (A.1.1 - 1) + 3) d) q2 d))) rfl ?_
                refine zz_fin.call rfl rfl (Nat.le_of_ble_eq_true rfl) (tab_all (t := A.1.1 - 1)) ?_
                rintro v h ⟨rfl, rfl⟩
                refine zz_fin.steps (n := 2) (s' := (219, [some (.ref 540), some (.int 1), some (.int (Int32.ofNat (A.1.1 - 1))), some (.int (Int32.ofNat (A.2.1 (A.1.1 - 1)))), some (.int (Int32.ofNat (5 + 50 * (A.1.1 - 1) + 4 * A.2.1 (A.1.1 - 1))))], [.int ((Int32.ofNat (3 + 50 * (A.1.1 - 1))) + 1), .ref 541], aa_H (tm_at (zz_w (zz_w (zz_w (zz_w g 541 (5 + 50 * (A.1.1 - 1) + 4 * A.2.1 (A.1.1 - 1)) y) 541 (5 + 50 * (A.1.1 - 1) + 4 * A.2.1 (A.1.1 - 1) + 1) (-1)) 541 (5 + 50 * (A.1.1 - 1) + 4 * A.2.1 (A.1.1 - 1) + 2) (-1)) 541 (5 + 50 * (A.1.1 - 1) + 4 * A.2.1 (A.1.1 - 1) + 3) d) q2 d))) rfl ?_
                rw [aa_succ]
                refine zz_fin.steps (n := 1) (s' := (220, [some (.ref 540), some (.int 1), some (.int (Int32.ofNat (A.1.1 - 1))), some (.int (Int32.ofNat (A.2.1 (A.1.1 - 1)))), some (.int (Int32.ofNat (5 + 50 * (A.1.1 - 1) + 4 * A.2.1 (A.1.1 - 1))))], [.int (Int32.ofNat (3 + 50 * (A.1.1 - 1) + 1)), .ref 541, .int (Int32.ofNat (3 + 50 * (A.1.1 - 1) + 1)), .ref 541], aa_H (tm_at (zz_w (zz_w (zz_w (zz_w g 541 (5 + 50 * (A.1.1 - 1) + 4 * A.2.1 (A.1.1 - 1)) y) 541 (5 + 50 * (A.1.1 - 1) + 4 * A.2.1 (A.1.1 - 1) + 1) (-1)) 541 (5 + 50 * (A.1.1 - 1) + 4 * A.2.1 (A.1.1 - 1) + 2) (-1)) 541 (5 + 50 * (A.1.1 - 1) + 4 * A.2.1 (A.1.1 - 1) + 3) d) q2 d))) rfl ?_
                refine zz_fin.ial (n := 6384) rfl rfl (zz_inbN (by omega) (by omega)) ?_
                rw [zz_toN (by omega), show (aa_H (tm_at (zz_w (zz_w (zz_w (zz_w g 541 (5 + 50 * (A.1.1 - 1) + 4 * A.2.1 (A.1.1 - 1)) y) 541 (5 + 50 * (A.1.1 - 1) + 4 * A.2.1 (A.1.1 - 1) + 1) (-1)) 541 (5 + 50 * (A.1.1 - 1) + 4 * A.2.1 (A.1.1 - 1) + 2) (-1)) 541 (5 + 50 * (A.1.1 - 1) + 4 * A.2.1 (A.1.1 - 1) + 3) d) q2 d)).2.2 541 (3 + 50 * (A.1.1 - 1) + 1) = Int32.ofNat (A.2.1 (A.1.1 - 1)) by show (zz_w (zz_w (zz_w (zz_w g 541 (5 + 50 * (A.1.1 - 1) + 4 * A.2.1 (A.1.1 - 1)) y) 541 (5 + 50 * (A.1.1 - 1) + 4 * A.2.1 (A.1.1 - 1) + 1) (-1)) 541 (5 + 50 * (A.1.1 - 1) + 4 * A.2.1 (A.1.1 - 1) + 2) (-1)) 541 (5 + 50 * (A.1.1 - 1) + 4 * A.2.1 (A.1.1 - 1) + 3) d) 541 (3 + 50 * (A.1.1 - 1) + 1) = _; rw [aa_w_ne _ _ (by omega), aa_w_ne _ _ (by omega), aa_w_ne _ _ (by omega), aa_w_ne _ _ (by omega)]; exact hT2]
                refine zz_fin.steps (n := 2) (s' := (223, [some (.ref 540), some (.int 1), some (.int (Int32.ofNat (A.1.1 - 1))), some (.int (Int32.ofNat (A.2.1 (A.1.1 - 1)))), some (.int (Int32.ofNat (5 + 50 * (A.1.1 - 1) + 4 * A.2.1 (A.1.1 - 1))))], [.int ((Int32.ofNat (A.2.1 (A.1.1 - 1))) + 1), .int (Int32.ofNat (3 + 50 * (A.1.1 - 1) + 1)), .ref 541], aa_H (tm_at (zz_w (zz_w (zz_w (zz_w g 541 (5 + 50 * (A.1.1 - 1) + 4 * A.2.1 (A.1.1 - 1)) y) 541 (5 + 50 * (A.1.1 - 1) + 4 * A.2.1 (A.1.1 - 1) + 1) (-1)) 541 (5 + 50 * (A.1.1 - 1) + 4 * A.2.1 (A.1.1 - 1) + 2) (-1)) 541 (5 + 50 * (A.1.1 - 1) + 4 * A.2.1 (A.1.1 - 1) + 3) d) q2 d))) rfl ?_
                rw [aa_succ]
                refine zz_fin.ias (n := 6384) rfl rfl (zz_inbN (by omega) (by omega)) ?_
                rw [zz_toN (by omega)]
                refine zz_fin.steps (n := 0) (s' := (224, [some (.ref 540), some (.int 1), some (.int (Int32.ofNat (A.1.1 - 1))), some (.int (Int32.ofNat (A.2.1 (A.1.1 - 1)))), some (.int (Int32.ofNat (5 + 50 * (A.1.1 - 1) + 4 * A.2.1 (A.1.1 - 1))))], [], aa_H (zz_w (tm_at (zz_w (zz_w (zz_w (zz_w g 541 (5 + 50 * (A.1.1 - 1) + 4 * A.2.1 (A.1.1 - 1)) y) 541 (5 + 50 * (A.1.1 - 1) + 4 * A.2.1 (A.1.1 - 1) + 1) (-1)) 541 (5 + 50 * (A.1.1 - 1) + 4 * A.2.1 (A.1.1 - 1) + 2) (-1)) 541 (5 + 50 * (A.1.1 - 1) + 4 * A.2.1 (A.1.1 - 1) + 3) d) q2 d) 541 (3 + 50 * (A.1.1 - 1) + 1) (Int32.ofNat (A.2.1 (A.1.1 - 1) + 1))))) rfl ?_
                rw [tm_comm _ _ _ (by decide)]
                refine zz_fin.steps (n := 2) (s' := (227, [some (.ref 540), some (.int 1), some (.int (Int32.ofNat (A.1.1 - 1))), some (.int (Int32.ofNat (A.2.1 (A.1.1 - 1)))), some (.int (Int32.ofNat (5 + 50 * (A.1.1 - 1) + 4 * A.2.1 (A.1.1 - 1))))], [.int 59, .ref 540], aa_H (tm_at (zz_w (zz_w (zz_w (zz_w (zz_w g 541 (5 + 50 * (A.1.1 - 1) + 4 * A.2.1 (A.1.1 - 1)) y) 541 (5 + 50 * (A.1.1 - 1) + 4 * A.2.1 (A.1.1 - 1) + 1) (-1)) 541 (5 + 50 * (A.1.1 - 1) + 4 * A.2.1 (A.1.1 - 1) + 2) (-1)) 541 (5 + 50 * (A.1.1 - 1) + 4 * A.2.1 (A.1.1 - 1) + 3) d) 541 (3 + 50 * (A.1.1 - 1) + 1) (Int32.ofNat (A.2.1 (A.1.1 - 1) + 1))) q2 d))) rfl ?_
                have hA3 : mv0 (zz_w (zz_w (zz_w (zz_w (zz_w g 541 (5 + 50 * (A.1.1 - 1) + 4 * A.2.1 (A.1.1 - 1)) y) 541 (5 + 50 * (A.1.1 - 1) + 4 * A.2.1 (A.1.1 - 1) + 1) (-1)) 541 (5 + 50 * (A.1.1 - 1) + 4 * A.2.1 (A.1.1 - 1) + 2) (-1)) 541 (5 + 50 * (A.1.1 - 1) + 4 * A.2.1 (A.1.1 - 1) + 3) d) 541 (3 + 50 * (A.1.1 - 1) + 1) (Int32.ofNat (A.2.1 (A.1.1 - 1) + 1))) (sp_point A y (-1) (-1) d) := by
                  refine mv0_point hA e0 (by omega) ?_ ?_ ?_ ?_ (aa_w_at _ _ _ _) fun j hj => ?_
                  · rw [aa_w_ne _ _ (by omega), aa_w_ne _ _ (by omega), aa_w_ne _ _ (by omega), aa_w_ne _ _ (by omega), aa_w_at]
                  · rw [aa_w_ne _ _ (by omega), aa_w_ne _ _ (by omega), aa_w_ne _ _ (by omega), aa_w_at]
                  · rw [aa_w_ne _ _ (by omega), aa_w_ne _ _ (by omega), aa_w_at]
                  · rw [aa_w_ne _ _ (by omega), aa_w_at]
                  · rw [aa_w_ne _ _ (by omega), aa_w_ne _ _ (by omega), aa_w_ne _ _ (by omega), aa_w_ne _ _ (by omega), aa_w_ne _ _ (by omega)]
                refine zz_fin.call rfl rfl (Nat.le_of_ble_eq_true rfl) (mt_end h (hfr3.tr (mt_fr.w (by omega))) hA3 hqn3.1) ?_
                rintro v h' hres
                rcases hres with ⟨f, k1, rfl, k2⟩ | ⟨q, A', k1, k2, rfl, k3⟩
                · exact zz_fin.at (n := 1) rfl (.inl ⟨f, k1, rfl, k2⟩)
                · exact zz_fin.at (n := 1) rfl (.inr ⟨q, A', k1, k2, rfl, k3⟩)
            · rw [if_neg hs]
              refine zz_fin.if rfl (fun cz => ?_) (fun cz => zc_no0 cz)
              refine zz_fin.steps (n := 1) (s' := (133, [some (.ref 540), some (.int 1), some (.int (Int32.ofNat (A.1.1 - 1))), some (.int (Int32.ofNat (A.2.1 (A.1.1 - 1)))), some (.int (Int32.ofNat (5 + 50 * (A.1.1 - 1) + 4 * A.2.1 (A.1.1 - 1))))], [.int 0], aa_H (g'))) rfl ?_
              exact zz_fin.at (n := 1) rfl (.inl ⟨q, rfl, rfl, g', rfl, (mt_fr.w (v := y) (j := 5 + 50 * (A.1.1 - 1) + 4 * A.2.1 (A.1.1 - 1)) (by omega)).bad hA.2.1 ((aa_w_ne _ _ (by omega)).trans hA.1) hg⟩)
        by_cases ez : A.2.1 (A.1.1 - 1) = 0
        · have el : sp_low A = 0 := by unfold sp_low; rw [if_pos ez]; first | done | decide
          rw [el] at key ⊢
          refine zz_fin.if rfl (fun cz => ?_) (fun cz => ?_)
          · have c : Int32.ofNat (A.2.1 (A.1.1 - 1)) ≠ 0 := of_decide_eq_true cz
            exact absurd (by rw [ez]; rfl) c
          · refine zz_fin.steps (n := 2) (s' := (87, [some (.ref 540), some (.int 1), some (.int (Int32.ofNat (A.1.1 - 1))), some (.int (Int32.ofNat (A.2.1 (A.1.1 - 1)))), some (.int (Int32.ofNat (5 + 50 * (A.1.1 - 1) + 4 * A.2.1 (A.1.1 - 1))))], [.int 0, .ref 540], aa_H (tm_at g (p + 1) z))) rfl ?_
            exact key
        · have el : sp_low A = A.2.2 (A.1.1 - 1) (A.2.1 (A.1.1 - 1) - 1) 0 + 1 := by unfold sp_low; rw [if_neg ez]
          rw [el] at key ⊢
          refine zz_fin.if rfl (fun cz => ?_) (fun cz => ?_)
          · have e4 : Int32.ofNat (5 + 50 * (A.1.1 - 1) + 4 * A.2.1 (A.1.1 - 1)) - 4 = Int32.ofNat (5 + 50 * (A.1.1 - 1) + 4 * (A.2.1 (A.1.1 - 1) - 1)) := aa_eqN (by rw [aa_sub32 (by rw [zz_ofN (by omega), show (4 : Int32).toInt = 4 from rfl]; omega) (by rw [zz_ofN (by omega), show (4 : Int32).toInt = 4 from rfl]; omega), zz_ofN (by omega), show (4 : Int32).toInt = 4 from rfl]; omega) (by omega)
            refine zz_fin.steps (n := 5) (s' := (84, [some (.ref 540), some (.int 1), some (.int (Int32.ofNat (A.1.1 - 1))), some (.int (Int32.ofNat (A.2.1 (A.1.1 - 1)))), some (.int (Int32.ofNat (5 + 50 * (A.1.1 - 1) + 4 * A.2.1 (A.1.1 - 1))))], [.int ((Int32.ofNat (5 + 50 * (A.1.1 - 1) + 4 * A.2.1 (A.1.1 - 1))) - 4), .ref 541, .ref 540], aa_H (tm_at g (p + 1) z))) rfl ?_
            rw [e4]
            refine zz_fin.ial (n := 6384) rfl rfl (zz_inbN (by omega) (by omega)) ?_
            rw [zz_toN (by omega), show (aa_H (tm_at g (p + 1) z)).2.2 541 (5 + 50 * (A.1.1 - 1) + 4 * (A.2.1 (A.1.1 - 1) - 1)) = A.2.2 (A.1.1 - 1) (A.2.1 (A.1.1 - 1) - 1) 0 from (hT4 (A.2.1 (A.1.1 - 1) - 1) (by omega)).1]
            refine zz_fin.steps (n := 2) (s' := (87, [some (.ref 540), some (.int 1), some (.int (Int32.ofNat (A.1.1 - 1))), some (.int (Int32.ofNat (A.2.1 (A.1.1 - 1)))), some (.int (Int32.ofNat (5 + 50 * (A.1.1 - 1) + 4 * A.2.1 (A.1.1 - 1))))], [.int (A.2.2 (A.1.1 - 1) (A.2.1 (A.1.1 - 1) - 1) 0 + 1), .ref 540], aa_H (tm_at g (p + 1) z))) rfl ?_
            exact key
          · have c : Int32.ofNat (A.2.1 (A.1.1 - 1)) = 0 := Decidable.byContradiction fun z => cz (decide_eq_true z)
            have e := zz_ofN (n := A.2.1 (A.1.1 - 1)) (by omega)
            rw [c, show (0 : Int32).toInt = 0 from rfl] at e
            omega
      · have c1 : Int32.ofNat (A.2.1 (A.1.1 - 1)) = 12 := Decidable.byContradiction fun z => c1 (decide_eq_true z)
        have c1 : A.2.1 (A.1.1 - 1) = 12 := by have e := zz_ofN (n := A.2.1 (A.1.1 - 1)) (by omega); rw [c1, show (12 : Int32).toInt = 12 from rfl] at e; omega
        rw [if_neg fun e => e.2 c1]
        refine zz_fin.steps (n := 3) (s' := (34, [some (.ref 540), some (.int 1), some (.int (Int32.ofNat (A.1.1 - 1))), none, none], [.int (Int32.ofNat p), .ref 540], aa_H (tm_at g p z))) rfl ?_
        refine zz_fin.call rfl rfl (Nat.le_of_ble_eq_true rfl) (tm_fails _) ?_
        rintro v h ⟨rfl, rfl⟩
        exact zz_fin.at (n := 1) rfl (.inl ⟨p, rfl, rfl, _, rfl, mt_fr.rf.bad hA.2.1 hA.1 (tm_bad_of g p z p)⟩)
theorem mt_point_0 {g : aa_G} {b : Nat → Int32} {n p : Nat} {z : Int32} {A : sp_A} (h : tm_ok g b n) (hA : mv0 g A) (hp : p < n) : zz_fin none 174 (0, zz_in [.ref 540, .int 0] (zz_nl 174), [], aa_H (tm_at g p z)) (mt_res g n (sp_q b n (sp_body b n p false A))) := by
  have h0 : tm_at g p z 541 0 = Int32.ofNat A.1.1 := hA.1
  have h4 := hA.2.1
  unfold sp_body
  refine zz_fin.steps (n := 6) (s' := (8, [some (.ref 540), some (.int 0), none, none, none], [.int (((tm_at g p z) 541 0) - 1)], aa_H (tm_at g p z))) rfl ?_
  rw [h0]
  by_cases e0 : A.1.1 = 0
  · rw [if_neg fun e => e.1 e0, show Int32.ofNat A.1.1 - 1 = -1 by rw [e0]; rfl]
    refine zz_fin.steps (n := 2) (s' := (10, [some (.ref 540), some (.int 0), some (.int (-1)), none, none], [.int (-1)], aa_H (tm_at g p z))) rfl ?_
    refine zz_fin.if rfl (fun cz => ?_) (fun cz => absurd rfl cz)
    refine zz_fin.steps (n := 3) (s' := (34, [some (.ref 540), some (.int 0), some (.int (-1)), none, none], [.int (Int32.ofNat p), .ref 540], aa_H (tm_at g p z))) rfl ?_
    refine zz_fin.call rfl rfl (Nat.le_of_ble_eq_true rfl) (tm_fails _) ?_
    rintro v h ⟨rfl, rfl⟩
    exact zz_fin.at (n := 1) rfl (.inl ⟨p, rfl, rfl, _, rfl, mt_fr.rf.bad hA.2.1 hA.1 (tm_bad_of g p z p)⟩)
  · rw [aa_pred e0 (by omega)]
    obtain ⟨hT1, hT2, hT3, hT4⟩ := hA.2.2 (A.1.1 - 1) (by omega)
    refine zz_fin.steps (n := 2) (s' := (10, [some (.ref 540), some (.int 0), some (.int (Int32.ofNat (A.1.1 - 1))), none, none], [.int (Int32.ofNat (A.1.1 - 1))], aa_H (tm_at g p z))) rfl ?_
    refine zz_fin.if rfl (fun cz => ?_) (fun cz => ?_)
    · have c : (Int32.ofNat (A.1.1 - 1)).toInt < 0 := aa_lt32.mp (of_decide_eq_true cz)
      rw [zz_ofN (by omega)] at c
      omega
    · refine zz_fin.steps (n := 3) (s' := (18, [some (.ref 540), some (.int 0), some (.int (Int32.ofNat (A.1.1 - 1))), none, none], [.int (Int32.ofNat (A.1.1 - 1)), .ref 541], aa_H (tm_at g p z))) rfl ?_
      refine zz_fin.call rfl rfl (Nat.le_of_ble_eq_true rfl) (tab_all (t := A.1.1 - 1)) ?_
      rintro v h ⟨rfl, rfl⟩
      refine zz_fin.steps (n := 2) (s' := (23, [some (.ref 540), some (.int 0), some (.int (Int32.ofNat (A.1.1 - 1))), none, none], [.int ((Int32.ofNat (3 + 50 * (A.1.1 - 1))) + 1), .ref 541], aa_H (tm_at g p z))) rfl ?_
      rw [aa_succ]
      refine zz_fin.ial (n := 6384) rfl rfl (zz_inbN (by omega) (by omega)) ?_
      rw [zz_toN (by omega), show (aa_H (tm_at g p z)).2.2 541 (3 + 50 * (A.1.1 - 1) + 1) = Int32.ofNat (A.2.1 (A.1.1 - 1)) from hT2]
      refine zz_fin.steps (n := 1) (s' := (26, [some (.ref 540), some (.int 0), some (.int (Int32.ofNat (A.1.1 - 1))), none, none], [.int 12, .int (Int32.ofNat (A.2.1 (A.1.1 - 1)))], aa_H (tm_at g p z))) rfl ?_
      refine zz_fin.ic rfl (fun c1 => ?_) (fun c1 => ?_)
      · have c1 : Int32.ofNat (A.2.1 (A.1.1 - 1)) ≠ 12 := of_decide_eq_true c1
        have c1 : A.2.1 (A.1.1 - 1) ≠ 12 := fun e => c1 (by rw [e]; rfl)
        rw [if_pos ⟨e0, c1⟩]
        refine zz_fin.steps (n := 5) (s' := (45, [some (.ref 540), some (.int 0), some (.int (Int32.ofNat (A.1.1 - 1))), none, none], [.int ((Int32.ofNat p) + 1), .ref 540], aa_H (tm_at g p z))) rfl ?_
        rw [aa_succ]
        refine zz_fin.steps (n := 1) (s' := (48, [some (.ref 540), some (.int 0), some (.int (Int32.ofNat (A.1.1 - 1))), none, none], [], aa_H (zz_w (tm_at g p z) 540 5 (Int32.ofNat (p + 1))))) rfl ?_
        rw [tm_inc]
        refine zz_fin.steps (n := 3) (s' := (53, [some (.ref 540), some (.int 0), some (.int (Int32.ofNat (A.1.1 - 1))), none, none], [.int (Int32.ofNat (A.1.1 - 1)), .ref 541], aa_H (tm_at g (p + 1) z))) rfl ?_
        refine zz_fin.call rfl rfl (Nat.le_of_ble_eq_true rfl) (tab_all (t := A.1.1 - 1)) ?_
        rintro v h ⟨rfl, rfl⟩
        refine zz_fin.steps (n := 2) (s' := (58, [some (.ref 540), some (.int 0), some (.int (Int32.ofNat (A.1.1 - 1))), none, none], [.int ((Int32.ofNat (3 + 50 * (A.1.1 - 1))) + 1), .ref 541], aa_H (tm_at g (p + 1) z))) rfl ?_
        rw [aa_succ]
        refine zz_fin.ial (n := 6384) rfl rfl (zz_inbN (by omega) (by omega)) ?_
        rw [zz_toN (by omega), show (aa_H (tm_at g (p + 1) z)).2.2 541 (3 + 50 * (A.1.1 - 1) + 1) = Int32.ofNat (A.2.1 (A.1.1 - 1)) from hT2]
        refine zz_fin.steps (n := 3) (s' := (62, [some (.ref 540), some (.int 0), some (.int (Int32.ofNat (A.1.1 - 1))), some (.int (Int32.ofNat (A.2.1 (A.1.1 - 1)))), none], [.int (Int32.ofNat (A.2.1 (A.1.1 - 1))), .int (Int32.ofNat (A.1.1 - 1))], aa_H (tm_at g (p + 1) z))) rfl ?_
        refine zz_fin.call rfl rfl (Nat.le_of_ble_eq_true rfl) (at_all (t := A.1.1 - 1) (i := A.2.1 (A.1.1 - 1))) ?_
        rintro v h ⟨rfl, rfl⟩
        refine zz_fin.steps (n := 3) (s' := (69, [some (.ref 540), some (.int 0), some (.int (Int32.ofNat (A.1.1 - 1))), some (.int (Int32.ofNat (A.2.1 (A.1.1 - 1)))), some (.int (Int32.ofNat (5 + 50 * (A.1.1 - 1) + 4 * A.2.1 (A.1.1 - 1))))], [.int (Int32.ofNat (A.2.1 (A.1.1 - 1))), .ref 540], aa_H (tm_at g (p + 1) z))) rfl ?_
        have key : zz_fin none 174 (87, [some (.ref 540), some (.int 0), some (.int (Int32.ofNat (A.1.1 - 1))), some (.int (Int32.ofNat (A.2.1 (A.1.1 - 1)))), some (.int (Int32.ofNat (5 + 50 * (A.1.1 - 1) + 4 * A.2.1 (A.1.1 - 1))))], [.int (sp_low A), .ref 540], aa_H (tm_at g (p + 1) z)) (mt_res g n (sp_q b n (sp_then (sp_num b n true (sp_low A) 359 (p + 1)) fun q y => sp_pass b n 44 q fun q => if false = false then sp_hours b n q y A else sp_kind b n q y A))) := by
          generalize sp_low A = LOW
          refine zz_fin.steps (n := 1) (s' := (90, [some (.ref 540), some (.int 0), some (.int (Int32.ofNat (A.1.1 - 1))), some (.int (Int32.ofNat (A.2.1 (A.1.1 - 1)))), some (.int (Int32.ofNat (5 + 50 * (A.1.1 - 1) + 4 * A.2.1 (A.1.1 - 1))))], [.int 359, .int LOW, .ref 540], aa_H (tm_at g (p + 1) z))) rfl ?_
          refine zz_fin.call rfl rfl (Nat.le_of_ble_eq_true rfl) (tm_signed h (p := p + 1) hp) ?_
          rintro v h (⟨f, hf, rfl, g', rfl, hg⟩ | ⟨q, y, hq, rfl, rfl⟩)
          · rw [hf]
            refine zz_fin.if rfl (fun cz => ?_) (fun cz => zc_no0 cz)
            refine zz_fin.steps (n := 1) (s' := (133, [some (.ref 540), some (.int 0), some (.int (Int32.ofNat (A.1.1 - 1))), some (.int (Int32.ofNat (A.2.1 (A.1.1 - 1)))), some (.int (Int32.ofNat (5 + 50 * (A.1.1 - 1) + 4 * A.2.1 (A.1.1 - 1))))], [.int 0], aa_H (g'))) rfl ?_
            exact zz_fin.at (n := 1) rfl (.inl ⟨f, rfl, rfl, g', rfl, mt_fr.rf.bad hA.2.1 (by first | exact hA.1 | exact (aa_w_ne _ _ (by omega)).trans hA.1 | (rw [aa_w_ne _ _ (by omega), aa_w_ne _ _ (by omega), aa_w_ne _ _ (by omega), aa_w_ne _ _ (by omega)]; exact hA.1)) hg⟩)
          · rw [hq]
            have hqn := sp_num_n hq hp
            unfold sp_then sp_pass
            dsimp only
            refine zz_fin.if rfl (fun cz => zc_no1 cz) (fun cz => ?_)
            refine zz_fin.steps (n := 2) (s' := (99, [some (.ref 540), some (.int 0), some (.int (Int32.ofNat (A.1.1 - 1))), some (.int (Int32.ofNat (A.2.1 (A.1.1 - 1)))), some (.int (Int32.ofNat (5 + 50 * (A.1.1 - 1) + 4 * A.2.1 (A.1.1 - 1))))], [.int (Int32.ofNat (5 + 50 * (A.1.1 - 1) + 4 * A.2.1 (A.1.1 - 1))), .ref 540], aa_H (tm_at g q y))) rfl ?_
            refine zz_fin.call (ψ := fun v h' => v = some (.int 1) ∧ h' = aa_H (tm_at (zz_w g 541 (5 + 50 * (A.1.1 - 1) + 4 * A.2.1 (A.1.1 - 1)) y) q y)) rfl rfl (Nat.le_of_ble_eq_true rfl) ?_ ?_
            · refine zz_fin.steps (n := 5) (s' := (9, [some (.ref 540), some (.int (Int32.ofNat (5 + 50 * (A.1.1 - 1) + 4 * A.2.1 (A.1.1 - 1))))], [.int y, .int (Int32.ofNat (5 + 50 * (A.1.1 - 1) + 4 * A.2.1 (A.1.1 - 1))), .ref 541], aa_H (tm_at g q y))) rfl ?_
              refine zz_fin.ias (n := 6384) rfl rfl (zz_inbN (by omega) (by omega)) ?_
              rw [zz_toN (by omega)]
              refine zz_fin.at (n := 2) rfl ⟨rfl, ?_⟩
              exact congrArg aa_H (tm_comm _ _ _ (by decide))
            rintro v h' ⟨rfl, rfl⟩
            refine zz_fin.if rfl (fun cz => zc_no1 cz) (fun cz => ?_)
            refine zz_fin.steps (n := 2) (s' := (108, [some (.ref 540), some (.int 0), some (.int (Int32.ofNat (A.1.1 - 1))), some (.int (Int32.ofNat (A.2.1 (A.1.1 - 1)))), some (.int (Int32.ofNat (5 + 50 * (A.1.1 - 1) + 4 * A.2.1 (A.1.1 - 1))))], [.int 44, .ref 540], aa_H (tm_at (zz_w g 541 (5 + 50 * (A.1.1 - 1) + 4 * A.2.1 (A.1.1 - 1)) y) q y))) rfl ?_
            refine zz_fin.call rfl rfl (Nat.le_of_ble_eq_true rfl) (tm_takes (g := zz_w g 541 (5 + 50 * (A.1.1 - 1) + 4 * A.2.1 (A.1.1 - 1)) y) h hqn.1 (by decide)) ?_
            rintro v h (⟨rfl, hs, hqn2, rfl⟩ | ⟨rfl, hs, g', rfl, hg⟩)
            · rw [if_pos hs]
              refine zz_fin.if rfl (fun cz => zc_no1 cz) (fun cz => ?_)
              refine zz_fin.steps (n := 3) (s' := (117, [some (.ref 540), some (.int 0), some (.int (Int32.ofNat (A.1.1 - 1))), some (.int (Int32.ofNat (A.2.1 (A.1.1 - 1)))), some (.int (Int32.ofNat (5 + 50 * (A.1.1 - 1) + 4 * A.2.1 (A.1.1 - 1))))], [.int 0, .int 0, .ref 540], aa_H (tm_at (zz_w g 541 (5 + 50 * (A.1.1 - 1) + 4 * A.2.1 (A.1.1 - 1)) y) (q + 1) y))) rfl ?_
              refine zz_fin.if rfl (fun cz => ?_) (fun cz => zc_no0 cz)
              refine zz_fin.steps (n := 1) (s' := (126, [some (.ref 540), some (.int 0), some (.int (Int32.ofNat (A.1.1 - 1))), some (.int (Int32.ofNat (A.2.1 (A.1.1 - 1)))), some (.int (Int32.ofNat (5 + 50 * (A.1.1 - 1) + 4 * A.2.1 (A.1.1 - 1))))], [.int 86399, .int 0, .ref 540], aa_H (tm_at (zz_w g 541 (5 + 50 * (A.1.1 - 1) + 4 * A.2.1 (A.1.1 - 1)) y) (q + 1) y))) rfl ?_
              rw [if_pos (show false = false from rfl)]
              unfold sp_hours sp_then sp_pass
              refine zz_fin.call rfl rfl (Nat.le_of_ble_eq_true rfl) (tm_signed (g := zz_w g 541 (5 + 50 * (A.1.1 - 1) + 4 * A.2.1 (A.1.1 - 1)) y) h (p := q + 1) hqn2) ?_
              rintro v h (⟨f, hf, rfl, g', rfl, hg⟩ | ⟨q2, d, hq2, rfl, rfl⟩)
              · rw [hf]
                refine zz_fin.if rfl (fun cz => absurd cz (by decide)) (fun cz => ?_)
                refine zz_fin.steps (n := 1) (s' := (133, [some (.ref 540), some (.int 0), some (.int (Int32.ofNat (A.1.1 - 1))), some (.int (Int32.ofNat (A.2.1 (A.1.1 - 1)))), some (.int (Int32.ofNat (5 + 50 * (A.1.1 - 1) + 4 * A.2.1 (A.1.1 - 1))))], [.int 0], aa_H (g'))) rfl ?_
                exact zz_fin.at (n := 1) rfl (.inl ⟨f, rfl, rfl, g', rfl, (mt_fr.w (v := y) (j := 5 + 50 * (A.1.1 - 1) + 4 * A.2.1 (A.1.1 - 1)) (by omega)).bad hA.2.1 (by first | exact hA.1 | exact (aa_w_ne _ _ (by omega)).trans hA.1 | (rw [aa_w_ne _ _ (by omega), aa_w_ne _ _ (by omega), aa_w_ne _ _ (by omega), aa_w_ne _ _ (by omega)]; exact hA.1)) hg⟩)
              · rw [hq2]
                have hqn3 := sp_num_n hq2 hqn2
                dsimp only
                refine zz_fin.if rfl (fun cz => ?_) (fun cz => absurd rfl cz)
                refine zz_fin.steps (n := 1) (s' := (135, [some (.ref 540), some (.int 0), some (.int (Int32.ofNat (A.1.1 - 1))), some (.int (Int32.ofNat (A.2.1 (A.1.1 - 1)))), some (.int (Int32.ofNat (5 + 50 * (A.1.1 - 1) + 4 * A.2.1 (A.1.1 - 1))))], [.int 0], aa_H (tm_at (zz_w g 541 (5 + 50 * (A.1.1 - 1) + 4 * A.2.1 (A.1.1 - 1)) y) q2 d))) rfl ?_
                refine zz_fin.if rfl (fun cz => ?_) (fun cz => zc_no0 cz)
                refine zz_fin.steps (n := 6) (s' := (162, [some (.ref 540), some (.int 0), some (.int (Int32.ofNat (A.1.1 - 1))), some (.int (Int32.ofNat (A.2.1 (A.1.1 - 1)))), some (.int (Int32.ofNat (5 + 50 * (A.1.1 - 1) + 4 * A.2.1 (A.1.1 - 1))))], [.int (-1), .int 0, .int d, .int (Int32.ofNat (5 + 50 * (A.1.1 - 1) + 4 * A.2.1 (A.1.1 - 1))), .ref 540], aa_H (tm_at (zz_w g 541 (5 + 50 * (A.1.1 - 1) + 4 * A.2.1 (A.1.1 - 1)) y) q2 d))) rfl ?_
                refine zz_fin.call rfl rfl (Nat.le_of_ble_eq_true rfl) (point_lay (P := 5 + 50 * (A.1.1 - 1) + 4 * A.2.1 (A.1.1 - 1)) (by omega)) ?_
                rintro v h ⟨rfl, rfl⟩
                rw [tm_comm _ _ _ (by decide), tm_comm _ _ _ (by decide), tm_comm _ _ _ (by decide)]
                have hfr3 : mt_fr g (zz_w (zz_w (zz_w (zz_w g 541 (5 + 50 * (A.1.1 - 1) + 4 * A.2.1 (A.1.1 - 1)) y) 541 (5 + 50 * (A.1.1 - 1) + 4 * A.2.1 (A.1.1 - 1) + 1) d) 541 (5 + 50 * (A.1.1 - 1) + 4 * A.2.1 (A.1.1 - 1) + 2) 0) 541 (5 + 50 * (A.1.1 - 1) + 4 * A.2.1 (A.1.1 - 1) + 3) (-1)) := (((mt_fr.w (v := y) (j := 5 + 50 * (A.1.1 - 1) + 4 * A.2.1 (A.1.1 - 1)) (by omega)).tr (mt_fr.w (by omega))).tr (mt_fr.w (by omega))).tr (mt_fr.w (by omega))
                refine zz_fin.steps (n := 2) (s' := (168, [some (.ref 540), some (.int 0), some (.int (Int32.ofNat (A.1.1 - 1))), some (.int (Int32.ofNat (A.2.1 (A.1.1 - 1)))), some (.int (Int32.ofNat (5 + 50 * (A.1.1 - 1) + 4 * A.2.1 (A.1.1 - 1))))], [.int 44, .ref 540], aa_H (tm_at (zz_w (zz_w (zz_w (zz_w g 541 (5 + 50 * (A.1.1 - 1) + 4 * A.2.1 (A.1.1 - 1)) y) 541 (5 + 50 * (A.1.1 - 1) + 4 * A.2.1 (A.1.1 - 1) + 1) d) 541 (5 + 50 * (A.1.1 - 1) + 4 * A.2.1 (A.1.1 - 1) + 2) 0) 541 (5 + 50 * (A.1.1 - 1) + 4 * A.2.1 (A.1.1 - 1) + 3) (-1)) q2 d))) rfl ?_
                refine zz_fin.call rfl rfl (Nat.le_of_ble_eq_true rfl) (tm_takes (g := zz_w (zz_w (zz_w (zz_w g 541 (5 + 50 * (A.1.1 - 1) + 4 * A.2.1 (A.1.1 - 1)) y) 541 (5 + 50 * (A.1.1 - 1) + 4 * A.2.1 (A.1.1 - 1) + 1) d) 541 (5 + 50 * (A.1.1 - 1) + 4 * A.2.1 (A.1.1 - 1) + 2) 0) 541 (5 + 50 * (A.1.1 - 1) + 4 * A.2.1 (A.1.1 - 1) + 3) (-1)) h hqn3.1 (by decide)) ?_
                rintro v h (⟨rfl, hs2, hqn4, rfl⟩ | ⟨rfl, hs2, g', rfl, hg⟩)
                · rw [if_pos hs2]
                  refine zz_fin.if rfl (fun cz => zc_no1 cz) (fun cz => ?_)
                  refine zz_fin.steps (n := 6) (s' := (183, [some (.ref 540), some (.int 0), some (.int (Int32.ofNat (A.1.1 - 1))), some (.int (Int32.ofNat (A.2.1 (A.1.1 - 1)))), some (.int (Int32.ofNat (5 + 50 * (A.1.1 - 1) + 4 * A.2.1 (A.1.1 - 1))))], [.int ((Int32.ofNat (5 + 50 * (A.1.1 - 1) + 4 * A.2.1 (A.1.1 - 1))) + 1), .ref 541, .ref 540], aa_H (tm_at (zz_w (zz_w (zz_w (zz_w g 541 (5 + 50 * (A.1.1 - 1) + 4 * A.2.1 (A.1.1 - 1)) y) 541 (5 + 50 * (A.1.1 - 1) + 4 * A.2.1 (A.1.1 - 1) + 1) d) 541 (5 + 50 * (A.1.1 - 1) + 4 * A.2.1 (A.1.1 - 1) + 2) 0) 541 (5 + 50 * (A.1.1 - 1) + 4 * A.2.1 (A.1.1 - 1) + 3) (-1)) (q2 + 1) d))) rfl ?_
                  rw [aa_succ]
                  refine zz_fin.ial (n := 6384) rfl rfl (zz_inbN (by omega) (by omega)) ?_
                  rw [zz_toN (by omega), show (aa_H (tm_at (zz_w (zz_w (zz_w (zz_w g 541 (5 + 50 * (A.1.1 - 1) + 4 * A.2.1 (A.1.1 - 1)) y) 541 (5 + 50 * (A.1.1 - 1) + 4 * A.2.1 (A.1.1 - 1) + 1) d) 541 (5 + 50 * (A.1.1 - 1) + 4 * A.2.1 (A.1.1 - 1) + 2) 0) 541 (5 + 50 * (A.1.1 - 1) + 4 * A.2.1 (A.1.1 - 1) + 3) (-1)) (q2 + 1) d)).2.2 541 (5 + 50 * (A.1.1 - 1) + 4 * A.2.1 (A.1.1 - 1) + 1) = d by show (zz_w (zz_w (zz_w (zz_w g 541 (5 + 50 * (A.1.1 - 1) + 4 * A.2.1 (A.1.1 - 1)) y) 541 (5 + 50 * (A.1.1 - 1) + 4 * A.2.1 (A.1.1 - 1) + 1) d) 541 (5 + 50 * (A.1.1 - 1) + 4 * A.2.1 (A.1.1 - 1) + 2) 0) 541 (5 + 50 * (A.1.1 - 1) + 4 * A.2.1 (A.1.1 - 1) + 3) (-1)) 541 (5 + 50 * (A.1.1 - 1) + 4 * A.2.1 (A.1.1 - 1) + 1) = d; rw [aa_w_ne _ _ (by omega), aa_w_ne _ _ (by omega), aa_w_at]]
                  refine zz_fin.steps (n := 3) (s' := (188, [some (.ref 540), some (.int 0), some (.int (Int32.ofNat (A.1.1 - 1))), some (.int (Int32.ofNat (A.2.1 (A.1.1 - 1)))), some (.int (Int32.ofNat (5 + 50 * (A.1.1 - 1) + 4 * A.2.1 (A.1.1 - 1))))], [.int 86399, .int (d + 1), .ref 540], aa_H (tm_at (zz_w (zz_w (zz_w (zz_w g 541 (5 + 50 * (A.1.1 - 1) + 4 * A.2.1 (A.1.1 - 1)) y) 541 (5 + 50 * (A.1.1 - 1) + 4 * A.2.1 (A.1.1 - 1) + 1) d) 541 (5 + 50 * (A.1.1 - 1) + 4 * A.2.1 (A.1.1 - 1) + 2) 0) 541 (5 + 50 * (A.1.1 - 1) + 4 * A.2.1 (A.1.1 - 1) + 3) (-1)) (q2 + 1) d))) rfl ?_
                  refine zz_fin.call rfl rfl (Nat.le_of_ble_eq_true rfl) (tm_signed (g := zz_w (zz_w (zz_w (zz_w g 541 (5 + 50 * (A.1.1 - 1) + 4 * A.2.1 (A.1.1 - 1)) y) 541 (5 + 50 * (A.1.1 - 1) + 4 * A.2.1 (A.1.1 - 1) + 1) d) 541 (5 + 50 * (A.1.1 - 1) + 4 * A.2.1 (A.1.1 - 1) + 2) 0) 541 (5 + 50 * (A.1.1 - 1) + 4 * A.2.1 (A.1.1 - 1) + 3) (-1)) h (p := q2 + 1) hqn4) ?_
                  rintro v h (⟨f, hf, rfl, g', rfl, hg⟩ | ⟨q3, k, hq3, rfl, rfl⟩)
                  · rw [hf]
                    refine zz_fin.if rfl (fun cz => absurd cz (by decide)) (fun cz => ?_)
                    refine zz_fin.steps (n := 1) (s' := (195, [some (.ref 540), some (.int 0), some (.int (Int32.ofNat (A.1.1 - 1))), some (.int (Int32.ofNat (A.2.1 (A.1.1 - 1)))), some (.int (Int32.ofNat (5 + 50 * (A.1.1 - 1) + 4 * A.2.1 (A.1.1 - 1))))], [.int 0], aa_H (g'))) rfl ?_
                    exact zz_fin.at (n := 1) rfl (.inl ⟨f, rfl, rfl, g', rfl, hfr3.bad hA.2.1 (by first | exact hA.1 | exact (aa_w_ne _ _ (by omega)).trans hA.1 | (rw [aa_w_ne _ _ (by omega), aa_w_ne _ _ (by omega), aa_w_ne _ _ (by omega), aa_w_ne _ _ (by omega)]; exact hA.1)) hg⟩)
                  · rw [hq3]
                    have hqn5 := sp_num_n hq3 hqn4
                    dsimp only
                    refine zz_fin.if rfl (fun cz => ?_) (fun cz => absurd rfl cz)
                    refine zz_fin.steps (n := 5) (s' := (204, [some (.ref 540), some (.int 0), some (.int (Int32.ofNat (A.1.1 - 1))), some (.int (Int32.ofNat (A.2.1 (A.1.1 - 1)))), some (.int (Int32.ofNat (5 + 50 * (A.1.1 - 1) + 4 * A.2.1 (A.1.1 - 1))))], [.int ((Int32.ofNat (5 + 50 * (A.1.1 - 1) + 4 * A.2.1 (A.1.1 - 1))) + 2), .ref 541], aa_H (tm_at (zz_w (zz_w (zz_w (zz_w g 541 (5 + 50 * (A.1.1 - 1) + 4 * A.2.1 (A.1.1 - 1)) y) 541 (5 + 50 * (A.1.1 - 1) + 4 * A.2.1 (A.1.1 - 1) + 1) d) 541 (5 + 50 * (A.1.1 - 1) + 4 * A.2.1 (A.1.1 - 1) + 2) 0) 541 (5 + 50 * (A.1.1 - 1) + 4 * A.2.1 (A.1.1 - 1) + 3) (-1)) q3 k))) rfl ?_
                    rw [show Int32.ofNat (5 + 50 * (A.1.1 - 1) + 4 * A.2.1 (A.1.1 - 1)) + 2 = Int32.ofNat (5 + 50 * (A.1.1 - 1) + 4 * A.2.1 (A.1.1 - 1) + 2) from (Int32.ofNat_add _ 2).symm]
                    refine zz_fin.steps (n := 2) (s' := (208, [some (.ref 540), some (.int 0), some (.int (Int32.ofNat (A.1.1 - 1))), some (.int (Int32.ofNat (A.2.1 (A.1.1 - 1)))), some (.int (Int32.ofNat (5 + 50 * (A.1.1 - 1) + 4 * A.2.1 (A.1.1 - 1))))], [.int k, .int (Int32.ofNat (5 + 50 * (A.1.1 - 1) + 4 * A.2.1 (A.1.1 - 1) + 2)), .ref 541], aa_H (tm_at (zz_w (zz_w (zz_w (zz_w g 541 (5 + 50 * (A.1.1 - 1) + 4 * A.2.1 (A.1.1 - 1)) y) 541 (5 + 50 * (A.1.1 - 1) + 4 * A.2.1 (A.1.1 - 1) + 1) d) 541 (5 + 50 * (A.1.1 - 1) + 4 * A.2.1 (A.1.1 - 1) + 2) 0) 541 (5 + 50 * (A.1.1 - 1) + 4 * A.2.1 (A.1.1 - 1) + 3) (-1)) q3 k))) rfl ?_
                    refine zz_fin.ias (n := 6384) rfl rfl (zz_inbN (by omega) (by omega)) ?_
                    rw [zz_toN (by omega)]
                    refine zz_fin.steps (n := 0) (s' := (209, [some (.ref 540), some (.int 0), some (.int (Int32.ofNat (A.1.1 - 1))), some (.int (Int32.ofNat (A.2.1 (A.1.1 - 1)))), some (.int (Int32.ofNat (5 + 50 * (A.1.1 - 1) + 4 * A.2.1 (A.1.1 - 1))))], [], aa_H (zz_w (tm_at (zz_w (zz_w (zz_w (zz_w g 541 (5 + 50 * (A.1.1 - 1) + 4 * A.2.1 (A.1.1 - 1)) y) 541 (5 + 50 * (A.1.1 - 1) + 4 * A.2.1 (A.1.1 - 1) + 1) d) 541 (5 + 50 * (A.1.1 - 1) + 4 * A.2.1 (A.1.1 - 1) + 2) 0) 541 (5 + 50 * (A.1.1 - 1) + 4 * A.2.1 (A.1.1 - 1) + 3) (-1)) q3 k) 541 (5 + 50 * (A.1.1 - 1) + 4 * A.2.1 (A.1.1 - 1) + 2) k))) rfl ?_
                    rw [tm_comm _ _ _ (by decide)]
                    refine zz_fin.steps (n := 3) (s' := (214, [some (.ref 540), some (.int 0), some (.int (Int32.ofNat (A.1.1 - 1))), some (.int (Int32.ofNat (A.2.1 (A.1.1 - 1)))), some (.int (Int32.ofNat (5 + 50 * (A.1.1 - 1) + 4 * A.2.1 (A.1.1 - 1))))], [.int (Int32.ofNat (A.1.1 - 1)), .ref 541], aa_H (tm_at (zz_w (zz_w (zz_w (zz_w (zz_w g 541 (5 + 50 * (A.1.1 - 1) + 4 * A.2.1 (A.1.1 - 1)) y) 541 (5 + 50 * (A.1.1 - 1) + 4 * A.2.1 (A.1.1 - 1) + 1) d) 541 (5 + 50 * (A.1.1 - 1) + 4 * A.2.1 (A.1.1 - 1) + 2) 0) 541 (5 + 50 * (A.1.1 - 1) + 4 * A.2.1 (A.1.1 - 1) + 3) (-1)) 541 (5 + 50 * (A.1.1 - 1) + 4 * A.2.1 (A.1.1 - 1) + 2) k) q3 k))) rfl ?_
                    refine zz_fin.call rfl rfl (Nat.le_of_ble_eq_true rfl) (tab_all (t := A.1.1 - 1)) ?_
                    rintro v h ⟨rfl, rfl⟩
                    refine zz_fin.steps (n := 2) (s' := (219, [some (.ref 540), some (.int 0), some (.int (Int32.ofNat (A.1.1 - 1))), some (.int (Int32.ofNat (A.2.1 (A.1.1 - 1)))), some (.int (Int32.ofNat (5 + 50 * (A.1.1 - 1) + 4 * A.2.1 (A.1.1 - 1))))], [.int ((Int32.ofNat (3 + 50 * (A.1.1 - 1))) + 1), .ref 541], aa_H (tm_at (zz_w (zz_w (zz_w (zz_w (zz_w g 541 (5 + 50 * (A.1.1 - 1) + 4 * A.2.1 (A.1.1 - 1)) y) 541 (5 + 50 * (A.1.1 - 1) + 4 * A.2.1 (A.1.1 - 1) + 1) d) 541 (5 + 50 * (A.1.1 - 1) + 4 * A.2.1 (A.1.1 - 1) + 2) 0) 541 (5 + 50 * (A.1.1 - 1) + 4 * A.2.1 (A.1.1 - 1) + 3) (-1)) 541 (5 + 50 * (A.1.1 - 1) + 4 * A.2.1 (A.1.1 - 1) + 2) k) q3 k))) rfl ?_
                    rw [aa_succ]
                    refine zz_fin.steps (n := 1) (s' := (220, [some (.ref 540), some (.int 0), some (.int (Int32.ofNat (A.1.1 - 1))), some (.int (Int32.ofNat (A.2.1 (A.1.1 - 1)))), some (.int (Int32.ofNat (5 + 50 * (A.1.1 - 1) + 4 * A.2.1 (A.1.1 - 1))))], [.int (Int32.ofNat (3 + 50 * (A.1.1 - 1) + 1)), .ref 541, .int (Int32.ofNat (3 + 50 * (A.1.1 - 1) + 1)), .ref 541], aa_H (tm_at (zz_w (zz_w (zz_w (zz_w (zz_w g 541 (5 + 50 * (A.1.1 - 1) + 4 * A.2.1 (A.1.1 - 1)) y) 541 (5 + 50 * (A.1.1 - 1) + 4 * A.2.1 (A.1.1 - 1) + 1) d) 541 (5 + 50 * (A.1.1 - 1) + 4 * A.2.1 (A.1.1 - 1) + 2) 0) 541 (5 + 50 * (A.1.1 - 1) + 4 * A.2.1 (A.1.1 - 1) + 3) (-1)) 541 (5 + 50 * (A.1.1 - 1) + 4 * A.2.1 (A.1.1 - 1) + 2) k) q3 k))) rfl ?_
                    refine zz_fin.ial (n := 6384) rfl rfl (zz_inbN (by omega) (by omega)) ?_
                    rw [zz_toN (by omega), show (aa_H (tm_at (zz_w (zz_w (zz_w (zz_w (zz_w g 541 (5 + 50 * (A.1.1 - 1) + 4 * A.2.1 (A.1.1 - 1)) y) 541 (5 + 50 * (A.1.1 - 1) + 4 * A.2.1 (A.1.1 - 1) + 1) d) 541 (5 + 50 * (A.1.1 - 1) + 4 * A.2.1 (A.1.1 - 1) + 2) 0) 541 (5 + 50 * (A.1.1 - 1) + 4 * A.2.1 (A.1.1 - 1) + 3) (-1)) 541 (5 + 50 * (A.1.1 - 1) + 4 * A.2.1 (A.1.1 - 1) + 2) k) q3 k)).2.2 541 (3 + 50 * (A.1.1 - 1) + 1) = Int32.ofNat (A.2.1 (A.1.1 - 1)) by show (zz_w (zz_w (zz_w (zz_w (zz_w g 541 (5 + 50 * (A.1.1 - 1) + 4 * A.2.1 (A.1.1 - 1)) y) 541 (5 + 50 * (A.1.1 - 1) + 4 * A.2.1 (A.1.1 - 1) + 1) d) 541 (5 + 50 * (A.1.1 - 1) + 4 * A.2.1 (A.1.1 - 1) + 2) 0) 541 (5 + 50 * (A.1.1 - 1) + 4 * A.2.1 (A.1.1 - 1) + 3) (-1)) 541 (5 + 50 * (A.1.1 - 1) + 4 * A.2.1 (A.1.1 - 1) + 2) k) 541 (3 + 50 * (A.1.1 - 1) + 1) = _; rw [aa_w_ne _ _ (by omega), aa_w_ne _ _ (by omega), aa_w_ne _ _ (by omega), aa_w_ne _ _ (by omega), aa_w_ne _ _ (by omega)]; exact hT2]
                    refine zz_fin.steps (n := 2) (s' := (223, [some (.ref 540), some (.int 0), some (.int (Int32.ofNat (A.1.1 - 1))), some (.int (Int32.ofNat (A.2.1 (A.1.1 - 1)))), some (.int (Int32.ofNat (5 + 50 * (A.1.1 - 1) + 4 * A.2.1 (A.1.1 - 1))))], [.int ((Int32.ofNat (A.2.1 (A.1.1 - 1))) + 1), .int (Int32.ofNat (3 + 50 * (A.1.1 - 1) + 1)), .ref 541], aa_H (tm_at (zz_w (zz_w (zz_w (zz_w (zz_w g 541 (5 + 50 * (A.1.1 - 1) + 4 * A.2.1 (A.1.1 - 1)) y) 541 (5 + 50 * (A.1.1 - 1) + 4 * A.2.1 (A.1.1 - 1) + 1) d) 541 (5 + 50 * (A.1.1 - 1) + 4 * A.2.1 (A.1.1 - 1) + 2) 0) 541 (5 + 50 * (A.1.1 - 1) + 4 * A.2.1 (A.1.1 - 1) + 3) (-1)) 541 (5 + 50 * (A.1.1 - 1) + 4 * A.2.1 (A.1.1 - 1) + 2) k) q3 k))) rfl ?_
                    rw [aa_succ]
                    refine zz_fin.ias (n := 6384) rfl rfl (zz_inbN (by omega) (by omega)) ?_
                    rw [zz_toN (by omega)]
                    refine zz_fin.steps (n := 0) (s' := (224, [some (.ref 540), some (.int 0), some (.int (Int32.ofNat (A.1.1 - 1))), some (.int (Int32.ofNat (A.2.1 (A.1.1 - 1)))), some (.int (Int32.ofNat (5 + 50 * (A.1.1 - 1) + 4 * A.2.1 (A.1.1 - 1))))], [], aa_H (zz_w (tm_at (zz_w (zz_w (zz_w (zz_w (zz_w g 541 (5 + 50 * (A.1.1 - 1) + 4 * A.2.1 (A.1.1 - 1)) y) 541 (5 + 50 * (A.1.1 - 1) + 4 * A.2.1 (A.1.1 - 1) + 1) d) 541 (5 + 50 * (A.1.1 - 1) + 4 * A.2.1 (A.1.1 - 1) + 2) 0) 541 (5 + 50 * (A.1.1 - 1) + 4 * A.2.1 (A.1.1 - 1) + 3) (-1)) 541 (5 + 50 * (A.1.1 - 1) + 4 * A.2.1 (A.1.1 - 1) + 2) k) q3 k) 541 (3 + 50 * (A.1.1 - 1) + 1) (Int32.ofNat (A.2.1 (A.1.1 - 1) + 1))))) rfl ?_
                    rw [tm_comm _ _ _ (by decide)]
                    refine zz_fin.steps (n := 2) (s' := (227, [some (.ref 540), some (.int 0), some (.int (Int32.ofNat (A.1.1 - 1))), some (.int (Int32.ofNat (A.2.1 (A.1.1 - 1)))), some (.int (Int32.ofNat (5 + 50 * (A.1.1 - 1) + 4 * A.2.1 (A.1.1 - 1))))], [.int 59, .ref 540], aa_H (tm_at (zz_w (zz_w (zz_w (zz_w (zz_w (zz_w g 541 (5 + 50 * (A.1.1 - 1) + 4 * A.2.1 (A.1.1 - 1)) y) 541 (5 + 50 * (A.1.1 - 1) + 4 * A.2.1 (A.1.1 - 1) + 1) d) 541 (5 + 50 * (A.1.1 - 1) + 4 * A.2.1 (A.1.1 - 1) + 2) 0) 541 (5 + 50 * (A.1.1 - 1) + 4 * A.2.1 (A.1.1 - 1) + 3) (-1)) 541 (5 + 50 * (A.1.1 - 1) + 4 * A.2.1 (A.1.1 - 1) + 2) k) 541 (3 + 50 * (A.1.1 - 1) + 1) (Int32.ofNat (A.2.1 (A.1.1 - 1) + 1))) q3 k))) rfl ?_
                    have hA3 : mv0 (zz_w (zz_w (zz_w (zz_w (zz_w (zz_w g 541 (5 + 50 * (A.1.1 - 1) + 4 * A.2.1 (A.1.1 - 1)) y) 541 (5 + 50 * (A.1.1 - 1) + 4 * A.2.1 (A.1.1 - 1) + 1) d) 541 (5 + 50 * (A.1.1 - 1) + 4 * A.2.1 (A.1.1 - 1) + 2) 0) 541 (5 + 50 * (A.1.1 - 1) + 4 * A.2.1 (A.1.1 - 1) + 3) (-1)) 541 (5 + 50 * (A.1.1 - 1) + 4 * A.2.1 (A.1.1 - 1) + 2) k) 541 (3 + 50 * (A.1.1 - 1) + 1) (Int32.ofNat (A.2.1 (A.1.1 - 1) + 1))) (sp_point A y d k (-1)) := by
                      refine mv0_point hA e0 (by omega) ?_ ?_ ?_ ?_ (aa_w_at _ _ _ _) fun j hj => ?_
                      · rw [aa_w_ne _ _ (by omega), aa_w_ne _ _ (by omega), aa_w_ne _ _ (by omega), aa_w_ne _ _ (by omega), aa_w_ne _ _ (by omega), aa_w_at]
                      · rw [aa_w_ne _ _ (by omega), aa_w_ne _ _ (by omega), aa_w_ne _ _ (by omega), aa_w_ne _ _ (by omega), aa_w_at]
                      · rw [aa_w_ne _ _ (by omega), aa_w_at]
                      · rw [aa_w_ne _ _ (by omega), aa_w_ne _ _ (by omega), aa_w_at]
                      · rw [aa_w_ne _ _ (by omega), aa_w_ne _ _ (by omega), aa_w_ne _ _ (by omega), aa_w_ne _ _ (by omega), aa_w_ne _ _ (by omega), aa_w_ne _ _ (by omega)]
                    refine zz_fin.call rfl rfl (Nat.le_of_ble_eq_true rfl) (mt_end h ((hfr3.tr (mt_fr.w (by omega))).tr (mt_fr.w (by omega))) hA3 hqn5.1) ?_
                    rintro v h' hres
                    rcases hres with ⟨f, k1, rfl, k2⟩ | ⟨q, A', k1, k2, rfl, k3⟩
                    · exact zz_fin.at (n := 1) rfl (.inl ⟨f, k1, rfl, k2⟩)
                    · exact zz_fin.at (n := 1) rfl (.inr ⟨q, A', k1, k2, rfl, k3⟩)
                · rw [if_neg hs2]
                  refine zz_fin.if rfl (fun cz => ?_) (fun cz => zc_no0 cz)
                  refine zz_fin.steps (n := 1) (s' := (195, [some (.ref 540), some (.int 0), some (.int (Int32.ofNat (A.1.1 - 1))), some (.int (Int32.ofNat (A.2.1 (A.1.1 - 1)))), some (.int (Int32.ofNat (5 + 50 * (A.1.1 - 1) + 4 * A.2.1 (A.1.1 - 1))))], [.int 0], aa_H (g'))) rfl ?_
                  exact zz_fin.at (n := 1) rfl (.inl ⟨q2, rfl, rfl, g', rfl, hfr3.bad hA.2.1 (by rw [aa_w_ne _ _ (by omega), aa_w_ne _ _ (by omega), aa_w_ne _ _ (by omega), aa_w_ne _ _ (by omega)]; exact hA.1) hg⟩)
            · rw [if_neg hs]
              refine zz_fin.if rfl (fun cz => ?_) (fun cz => zc_no0 cz)
              refine zz_fin.steps (n := 1) (s' := (133, [some (.ref 540), some (.int 0), some (.int (Int32.ofNat (A.1.1 - 1))), some (.int (Int32.ofNat (A.2.1 (A.1.1 - 1)))), some (.int (Int32.ofNat (5 + 50 * (A.1.1 - 1) + 4 * A.2.1 (A.1.1 - 1))))], [.int 0], aa_H (g'))) rfl ?_
              exact zz_fin.at (n := 1) rfl (.inl ⟨q, rfl, rfl, g', rfl, (mt_fr.w (v := y) (j := 5 + 50 * (A.1.1 - 1) + 4 * A.2.1 (A.1.1 - 1)) (by omega)).bad hA.2.1 ((aa_w_ne _ _ (by omega)).trans hA.1) hg⟩)
        by_cases ez : A.2.1 (A.1.1 - 1) = 0
        · have el : sp_low A = 0 := by unfold sp_low; rw [if_pos ez]; first | done | decide
          rw [el] at key ⊢
          refine zz_fin.if rfl (fun cz => ?_) (fun cz => ?_)
          · have c : Int32.ofNat (A.2.1 (A.1.1 - 1)) ≠ 0 := of_decide_eq_true cz
            exact absurd (by rw [ez]; rfl) c
          · refine zz_fin.steps (n := 2) (s' := (87, [some (.ref 540), some (.int 0), some (.int (Int32.ofNat (A.1.1 - 1))), some (.int (Int32.ofNat (A.2.1 (A.1.1 - 1)))), some (.int (Int32.ofNat (5 + 50 * (A.1.1 - 1) + 4 * A.2.1 (A.1.1 - 1))))], [.int 0, .ref 540], aa_H (tm_at g (p + 1) z))) rfl ?_
            exact key
        · have el : sp_low A = A.2.2 (A.1.1 - 1) (A.2.1 (A.1.1 - 1) - 1) 0 + 1 := by unfold sp_low; rw [if_neg ez]
          rw [el] at key ⊢
          refine zz_fin.if rfl (fun cz => ?_) (fun cz => ?_)
          · have e4 : Int32.ofNat (5 + 50 * (A.1.1 - 1) + 4 * A.2.1 (A.1.1 - 1)) - 4 = Int32.ofNat (5 + 50 * (A.1.1 - 1) + 4 * (A.2.1 (A.1.1 - 1) - 1)) := aa_eqN (by rw [aa_sub32 (by rw [zz_ofN (by omega), show (4 : Int32).toInt = 4 from rfl]; omega) (by rw [zz_ofN (by omega), show (4 : Int32).toInt = 4 from rfl]; omega), zz_ofN (by omega), show (4 : Int32).toInt = 4 from rfl]; omega) (by omega)
            refine zz_fin.steps (n := 5) (s' := (84, [some (.ref 540), some (.int 0), some (.int (Int32.ofNat (A.1.1 - 1))), some (.int (Int32.ofNat (A.2.1 (A.1.1 - 1)))), some (.int (Int32.ofNat (5 + 50 * (A.1.1 - 1) + 4 * A.2.1 (A.1.1 - 1))))], [.int ((Int32.ofNat (5 + 50 * (A.1.1 - 1) + 4 * A.2.1 (A.1.1 - 1))) - 4), .ref 541, .ref 540], aa_H (tm_at g (p + 1) z))) rfl ?_
            rw [e4]
            refine zz_fin.ial (n := 6384) rfl rfl (zz_inbN (by omega) (by omega)) ?_
            rw [zz_toN (by omega), show (aa_H (tm_at g (p + 1) z)).2.2 541 (5 + 50 * (A.1.1 - 1) + 4 * (A.2.1 (A.1.1 - 1) - 1)) = A.2.2 (A.1.1 - 1) (A.2.1 (A.1.1 - 1) - 1) 0 from (hT4 (A.2.1 (A.1.1 - 1) - 1) (by omega)).1]
            refine zz_fin.steps (n := 2) (s' := (87, [some (.ref 540), some (.int 0), some (.int (Int32.ofNat (A.1.1 - 1))), some (.int (Int32.ofNat (A.2.1 (A.1.1 - 1)))), some (.int (Int32.ofNat (5 + 50 * (A.1.1 - 1) + 4 * A.2.1 (A.1.1 - 1))))], [.int (A.2.2 (A.1.1 - 1) (A.2.1 (A.1.1 - 1) - 1) 0 + 1), .ref 540], aa_H (tm_at g (p + 1) z))) rfl ?_
            exact key
          · have c : Int32.ofNat (A.2.1 (A.1.1 - 1)) = 0 := Decidable.byContradiction fun z => cz (decide_eq_true z)
            have e := zz_ofN (n := A.2.1 (A.1.1 - 1)) (by omega)
            rw [c, show (0 : Int32).toInt = 0 from rfl] at e
            omega
      · have c1 : Int32.ofNat (A.2.1 (A.1.1 - 1)) = 12 := Decidable.byContradiction fun z => c1 (decide_eq_true z)
        have c1 : A.2.1 (A.1.1 - 1) = 12 := by have e := zz_ofN (n := A.2.1 (A.1.1 - 1)) (by omega); rw [c1, show (12 : Int32).toInt = 12 from rfl] at e; omega
        rw [if_neg fun e => e.2 c1]
        refine zz_fin.steps (n := 3) (s' := (34, [some (.ref 540), some (.int 0), some (.int (Int32.ofNat (A.1.1 - 1))), none, none], [.int (Int32.ofNat p), .ref 540], aa_H (tm_at g p z))) rfl ?_
        refine zz_fin.call rfl rfl (Nat.le_of_ble_eq_true rfl) (tm_fails _) ?_
        rintro v h ⟨rfl, rfl⟩
        exact zz_fin.at (n := 1) rfl (.inl ⟨p, rfl, rfl, _, rfl, mt_fr.rf.bad hA.2.1 hA.1 (tm_bad_of g p z p)⟩)
