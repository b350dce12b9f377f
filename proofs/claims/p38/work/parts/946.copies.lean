/-! ANY STATE OF THE CLASS: copyFrom -/
theorem cp_arr {g g' : aa_G} {a b n : Nat} (h : zz_up g a (va_cpy (g b) (g a) 0 0 n) = g') : (∀ j, j < n → g' a j = g b j) ∧ ∀ k, k ≠ a → g' k = g k := by
  subst h
  refine ⟨fun j hj => ?_, fun k hk => zz_up_ne _ _ hk⟩
  rw [zz_up_at]
  unfold va_cpy
  rw [if_pos ⟨Nat.zero_le _, by omega⟩, show 0 + (j - 0) = j by omega]
def cp_tw (g g' : aa_G) (T U : Nat) : Prop := (∀ j, j < 2 → g' T j = g U j) ∧ ∀ o j, 1 ≤ o → o ≤ 4 → j < 12 → g' (T + o) j = g (U + o) j
def cp_bl (g g' : aa_G) (B C : Nat) : Prop := (∀ j, j < 2 → g' B j = g C j) ∧ ∀ o j, 1 ≤ o → o ≤ 9 → j < (if o ≤ 6 then 8 else 40) → g' (B + o) j = g (C + o) j
/-- outside of these cells nothing has changed -/
def cp_fr (g g' : aa_G) (a b : Nat) : Prop := ∀ k j, ¬ (a ≤ k ∧ k ≤ b) → g' k j = g k j
theorem cp_town {g : aa_G} {T U : Nat} (hT : ct_tw T) (hU : ct_tw U) (hd : T + 5 ≤ U ∨ U + 5 ≤ T) : zz_fin none 17 (0, zz_in [.ref T, .ref U] (zz_nl 17), [], aa_H g) (fun v h => v = none ∧ ∃ g', h = aa_H g' ∧ cp_tw g g' T U ∧ cp_fr g g' T (T + 4)) := by
  have hT0 := hT.1
  have hU0 := hU.1
  refine zz_fin.steps (n := 2) (s' := (2, [some (.ref T), some (.ref U)], [.ref U, .ref T], aa_H g)) rfl ?_
  refine zz_fin.sgf rfl ⟨hU.1.1, by omega⟩ (hU.2.1) rfl ?_
  refine zz_fin.spf rfl ⟨hT.1.1, by omega⟩ (hT.2.1) rfl ?_
  refine zz_fin.steps (n := 2) (s' := (10, [some (.ref T), some (.ref U)], [.ref U, .ref T], aa_H (zz_w g T 0 (g U 0)))) rfl ?_
  refine zz_fin.sgf rfl ⟨hU.1.1, by omega⟩ (hU.2.1) rfl ?_
  refine zz_fin.spf rfl ⟨hT.1.1, by omega⟩ (hT.2.1) rfl ?_
  refine zz_fin.steps (n := 1) (s' := (17, [some (.ref T), some (.ref U)], [.ref U], aa_H (zz_w (zz_w g T 0 (g U 0)) T 1 ((zz_w g T 0 (g U 0)) U 1)))) rfl ?_
  refine zz_fin.sgr rfl ⟨hU.1.1, by omega⟩ (hU.2.1) rfl ?_
  refine zz_fin.steps (n := 2) (s' := (22, [some (.ref T), some (.ref U)], [.ref T, .int 0, .ref (U + 1)], aa_H (zz_w (zz_w g T 0 (g U 0)) T 1 ((zz_w g T 0 (g U 0)) U 1)))) rfl ?_
  refine zz_fin.sgr rfl ⟨hT.1.1, by omega⟩ (hT.2.1) rfl ?_
  refine zz_fin.steps (n := 2) (s' := (28, [some (.ref T), some (.ref U)], [.int 12, .int 0, .ref (T + 1), .int 0, .ref (U + 1)], aa_H (zz_w (zz_w g T 0 (g U 0)) T 1 ((zz_w g T 0 (g U 0)) U 1)))) rfl ?_
  refine zz_fin.scp rfl ⟨⟨by omega, by omega⟩, hT.2.2.1⟩ ⟨⟨by omega, by omega⟩, hU.2.2.1⟩ (by decide) rfl ?_
  generalize hG1 : zz_up (zz_w (zz_w g T 0 (g U 0)) T 1 ((zz_w g T 0 (g U 0)) U 1)) (T + 1) (va_cpy ((zz_w (zz_w g T 0 (g U 0)) T 1 ((zz_w g T 0 (g U 0)) U 1)) (U + 1)) ((zz_w (zz_w g T 0 (g U 0)) T 1 ((zz_w g T 0 (g U 0)) U 1)) (T + 1)) 0 0 12) = G1
  refine zz_fin.steps (n := 1) (s' := (32, [some (.ref T), some (.ref U)], [.ref U], aa_H G1)) rfl ?_
  refine zz_fin.sgr rfl ⟨hU.1.1, by omega⟩ (hU.2.1) rfl ?_
  refine zz_fin.steps (n := 2) (s' := (37, [some (.ref T), some (.ref U)], [.ref T, .int 0, .ref (U + 2)], aa_H G1)) rfl ?_
  refine zz_fin.sgr rfl ⟨hT.1.1, by omega⟩ (hT.2.1) rfl ?_
  refine zz_fin.steps (n := 2) (s' := (43, [some (.ref T), some (.ref U)], [.int 12, .int 0, .ref (T + 2), .int 0, .ref (U + 2)], aa_H G1)) rfl ?_
  refine zz_fin.scp rfl ⟨⟨by omega, by omega⟩, hT.2.2.2.1⟩ ⟨⟨by omega, by omega⟩, hU.2.2.2.1⟩ (by decide) rfl ?_
  generalize hG2 : zz_up G1 (T + 2) (va_cpy (G1 (U + 2)) (G1 (T + 2)) 0 0 12) = G2
  refine zz_fin.steps (n := 1) (s' := (47, [some (.ref T), some (.ref U)], [.ref U], aa_H G2)) rfl ?_
  refine zz_fin.sgr rfl ⟨hU.1.1, by omega⟩ (hU.2.1) rfl ?_
  refine zz_fin.steps (n := 2) (s' := (52, [some (.ref T), some (.ref U)], [.ref T, .int 0, .ref (U + 3)], aa_H G2)) rfl ?_
  refine zz_fin.sgr rfl ⟨hT.1.1, by omega⟩ (hT.2.1) rfl ?_
  refine zz_fin.steps (n := 2) (s' := (58, [some (.ref T), some (.ref U)], [.int 12, .int 0, .ref (T + 3), .int 0, .ref (U + 3)], aa_H G2)) rfl ?_
  refine zz_fin.scp rfl ⟨⟨by omega, by omega⟩, hT.2.2.2.2.1⟩ ⟨⟨by omega, by omega⟩, hU.2.2.2.2.1⟩ (by decide) rfl ?_
  generalize hG3 : zz_up G2 (T + 3) (va_cpy (G2 (U + 3)) (G2 (T + 3)) 0 0 12) = G3
  refine zz_fin.steps (n := 1) (s' := (62, [some (.ref T), some (.ref U)], [.ref U], aa_H G3)) rfl ?_
  refine zz_fin.sgr rfl ⟨hU.1.1, by omega⟩ (hU.2.1) rfl ?_
  refine zz_fin.steps (n := 2) (s' := (67, [some (.ref T), some (.ref U)], [.ref T, .int 0, .ref (U + 4)], aa_H G3)) rfl ?_
  refine zz_fin.sgr rfl ⟨hT.1.1, by omega⟩ (hT.2.1) rfl ?_
  refine zz_fin.steps (n := 2) (s' := (73, [some (.ref T), some (.ref U)], [.int 12, .int 0, .ref (T + 4), .int 0, .ref (U + 4)], aa_H G3)) rfl ?_
  refine zz_fin.scp rfl ⟨⟨by omega, by omega⟩, hT.2.2.2.2.2⟩ ⟨⟨by omega, by omega⟩, hU.2.2.2.2.2⟩ (by decide) rfl ?_
  generalize hG4 : zz_up G3 (T + 4) (va_cpy (G3 (U + 4)) (G3 (T + 4)) 0 0 12) = G4
  have c1 := cp_arr hG1
  have c2 := cp_arr hG2
  have c3 := cp_arr hG3
  have c4 := cp_arr hG4
  have b0 : (zz_w (zz_w g T 0 (g U 0)) T 1 ((zz_w g T 0 (g U 0)) U 1)) T 0 = g U 0 := by rw [aa_w_ne _ _ (by omega), aa_w_at]
  have b1 : (zz_w (zz_w g T 0 (g U 0)) T 1 ((zz_w g T 0 (g U 0)) U 1)) T 1 = g U 1 := by rw [aa_w_at, aa_w_ne _ _ (by omega)]
  have bo : ∀ k j, k ≠ T → (zz_w (zz_w g T 0 (g U 0)) T 1 ((zz_w g T 0 (g U 0)) U 1)) k j = g k j := fun k j hk => by rw [aa_w_ne _ _ fun e => hk e.1, aa_w_ne _ _ fun e => hk e.1]
  refine zz_fin.at (n := 1) rfl ⟨rfl, _, rfl, ?_, ?_⟩
  · refine ⟨fun j hj => ?_, fun o j h1 h2 hj => ?_⟩
    · rw [c4.2 _ (by omega), c3.2 _ (by omega), c2.2 _ (by omega), c1.2 _ (by omega)]
      rcases (show j = 0 ∨ j = 1 by omega) with rfl | rfl
      · exact b0
      · exact b1
    · rcases (show o = 1 ∨ o = 2 ∨ o = 3 ∨ o = 4 by omega) with rfl | rfl | rfl | rfl
      · rw [c4.2 _ (by omega), c3.2 _ (by omega), c2.2 _ (by omega), c1.1 j (by exact hj)]
        exact bo _ _ (by omega)
      · rw [c4.2 _ (by omega), c3.2 _ (by omega), c2.1 j (by exact hj), c1.2 _ (by omega)]
        exact bo _ _ (by omega)
      · rw [c4.2 _ (by omega), c3.1 j (by exact hj), c2.2 _ (by omega), c1.2 _ (by omega)]
        exact bo _ _ (by omega)
      · rw [c4.1 j (by exact hj), c3.2 _ (by omega), c2.2 _ (by omega), c1.2 _ (by omega)]
        exact bo _ _ (by omega)
  · intro k j hk
    rw [c4.2 _ (by omega), c3.2 _ (by omega), c2.2 _ (by omega), c1.2 _ (by omega)]
    exact bo _ _ (by omega)
theorem cp_bells {g : aa_G} {B C : Nat} (hB : ct_bl B) (hC : ct_bl C) (hd : B + 10 ≤ C ∨ C + 10 ≤ B) : zz_fin none 18 (0, zz_in [.ref B, .ref C] (zz_nl 18), [], aa_H g) (fun v h => v = none ∧ ∃ g', h = aa_H g' ∧ cp_bl g g' B C ∧ cp_fr g g' B (B + 9)) := by
  have hB0 := hB.1
  have hC0 := hC.1
  refine zz_fin.steps (n := 2) (s' := (2, [some (.ref B), some (.ref C)], [.ref C, .ref B], aa_H g)) rfl ?_
  refine zz_fin.sgf rfl ⟨hC.1.1, by omega⟩ (hC.2.1) rfl ?_
  refine zz_fin.spf rfl ⟨hB.1.1, by omega⟩ (hB.2.1) rfl ?_
  refine zz_fin.steps (n := 2) (s' := (10, [some (.ref B), some (.ref C)], [.ref C, .ref B], aa_H (zz_w g B 0 (g C 0)))) rfl ?_
  refine zz_fin.sgf rfl ⟨hC.1.1, by omega⟩ (hC.2.1) rfl ?_
  refine zz_fin.spf rfl ⟨hB.1.1, by omega⟩ (hB.2.1) rfl ?_
  refine zz_fin.steps (n := 1) (s' := (17, [some (.ref B), some (.ref C)], [.ref C], aa_H (zz_w (zz_w g B 0 (g C 0)) B 1 ((zz_w g B 0 (g C 0)) C 1)))) rfl ?_
  refine zz_fin.sgr rfl ⟨hC.1.1, by omega⟩ (hC.2.1) rfl ?_
  refine zz_fin.steps (n := 2) (s' := (22, [some (.ref B), some (.ref C)], [.ref B, .int 0, .ref (C + 1)], aa_H (zz_w (zz_w g B 0 (g C 0)) B 1 ((zz_w g B 0 (g C 0)) C 1)))) rfl ?_
  refine zz_fin.sgr rfl ⟨hB.1.1, by omega⟩ (hB.2.1) rfl ?_
  refine zz_fin.steps (n := 2) (s' := (28, [some (.ref B), some (.ref C)], [.int 8, .int 0, .ref (B + 1), .int 0, .ref (C + 1)], aa_H (zz_w (zz_w g B 0 (g C 0)) B 1 ((zz_w g B 0 (g C 0)) C 1)))) rfl ?_
  refine zz_fin.scp rfl ⟨⟨by omega, by omega⟩, hB.2.2.1⟩ ⟨⟨by omega, by omega⟩, hC.2.2.1⟩ (by decide) rfl ?_
  generalize hG1 : zz_up (zz_w (zz_w g B 0 (g C 0)) B 1 ((zz_w g B 0 (g C 0)) C 1)) (B + 1) (va_cpy ((zz_w (zz_w g B 0 (g C 0)) B 1 ((zz_w g B 0 (g C 0)) C 1)) (C + 1)) ((zz_w (zz_w g B 0 (g C 0)) B 1 ((zz_w g B 0 (g C 0)) C 1)) (B + 1)) 0 0 8) = G1
  refine zz_fin.steps (n := 1) (s' := (32, [some (.ref B), some (.ref C)], [.ref C], aa_H G1)) rfl ?_
  refine zz_fin.sgr rfl ⟨hC.1.1, by omega⟩ (hC.2.1) rfl ?_
  refine zz_fin.steps (n := 2) (s' := (37, [some (.ref B), some (.ref C)], [.ref B, .int 0, .ref (C + 2)], aa_H G1)) rfl ?_
  refine zz_fin.sgr rfl ⟨hB.1.1, by omega⟩ (hB.2.1) rfl ?_
  refine zz_fin.steps (n := 2) (s' := (43, [some (.ref B), some (.ref C)], [.int 8, .int 0, .ref (B + 2), .int 0, .ref (C + 2)], aa_H G1)) rfl ?_
  refine zz_fin.scp rfl ⟨⟨by omega, by omega⟩, hB.2.2.2.1⟩ ⟨⟨by omega, by omega⟩, hC.2.2.2.1⟩ (by decide) rfl ?_
  generalize hG2 : zz_up G1 (B + 2) (va_cpy (G1 (C + 2)) (G1 (B + 2)) 0 0 8) = G2
  refine zz_fin.steps (n := 1) (s' := (47, [some (.ref B), some (.ref C)], [.ref C], aa_H G2)) rfl ?_
  refine zz_fin.sgr rfl ⟨hC.1.1, by omega⟩ (hC.2.1) rfl ?_
  refine zz_fin.steps (n := 2) (s' := (52, [some (.ref B), some (.ref C)], [.ref B, .int 0, .ref (C + 3)], aa_H G2)) rfl ?_
  refine zz_fin.sgr rfl ⟨hB.1.1, by omega⟩ (hB.2.1) rfl ?_
  refine zz_fin.steps (n := 2) (s' := (58, [some (.ref B), some (.ref C)], [.int 8, .int 0, .ref (B + 3), .int 0, .ref (C + 3)], aa_H G2)) rfl ?_
  refine zz_fin.scp rfl ⟨⟨by omega, by omega⟩, hB.2.2.2.2.1⟩ ⟨⟨by omega, by omega⟩, hC.2.2.2.2.1⟩ (by decide) rfl ?_
  generalize hG3 : zz_up G2 (B + 3) (va_cpy (G2 (C + 3)) (G2 (B + 3)) 0 0 8) = G3
  refine zz_fin.steps (n := 1) (s' := (62, [some (.ref B), some (.ref C)], [.ref C], aa_H G3)) rfl ?_
  refine zz_fin.sgr rfl ⟨hC.1.1, by omega⟩ (hC.2.1) rfl ?_
  refine zz_fin.steps (n := 2) (s' := (67, [some (.ref B), some (.ref C)], [.ref B, .int 0, .ref (C + 4)], aa_H G3)) rfl ?_
  refine zz_fin.sgr rfl ⟨hB.1.1, by omega⟩ (hB.2.1) rfl ?_
  refine zz_fin.steps (n := 2) (s' := (73, [some (.ref B), some (.ref C)], [.int 8, .int 0, .ref (B + 4), .int 0, .ref (C + 4)], aa_H G3)) rfl ?_
  refine zz_fin.scp rfl ⟨⟨by omega, by omega⟩, hB.2.2.2.2.2.1⟩ ⟨⟨by omega, by omega⟩, hC.2.2.2.2.2.1⟩ (by decide) rfl ?_
  generalize hG4 : zz_up G3 (B + 4) (va_cpy (G3 (C + 4)) (G3 (B + 4)) 0 0 8) = G4
  refine zz_fin.steps (n := 1) (s' := (77, [some (.ref B), some (.ref C)], [.ref C], aa_H G4)) rfl ?_
  refine zz_fin.sgr rfl ⟨hC.1.1, by omega⟩ (hC.2.1) rfl ?_
  refine zz_fin.steps (n := 2) (s' := (82, [some (.ref B), some (.ref C)], [.ref B, .int 0, .ref (C + 5)], aa_H G4)) rfl ?_
  refine zz_fin.sgr rfl ⟨hB.1.1, by omega⟩ (hB.2.1) rfl ?_
  refine zz_fin.steps (n := 2) (s' := (88, [some (.ref B), some (.ref C)], [.int 8, .int 0, .ref (B + 5), .int 0, .ref (C + 5)], aa_H G4)) rfl ?_
  refine zz_fin.scp rfl ⟨⟨by omega, by omega⟩, hB.2.2.2.2.2.2.1⟩ ⟨⟨by omega, by omega⟩, hC.2.2.2.2.2.2.1⟩ (by decide) rfl ?_
  generalize hG5 : zz_up G4 (B + 5) (va_cpy (G4 (C + 5)) (G4 (B + 5)) 0 0 8) = G5
  refine zz_fin.steps (n := 1) (s' := (92, [some (.ref B), some (.ref C)], [.ref C], aa_H G5)) rfl ?_
  refine zz_fin.sgr rfl ⟨hC.1.1, by omega⟩ (hC.2.1) rfl ?_
  refine zz_fin.steps (n := 2) (s' := (97, [some (.ref B), some (.ref C)], [.ref B, .int 0, .ref (C + 6)], aa_H G5)) rfl ?_
  refine zz_fin.sgr rfl ⟨hB.1.1, by omega⟩ (hB.2.1) rfl ?_
  refine zz_fin.steps (n := 2) (s' := (103, [some (.ref B), some (.ref C)], [.int 8, .int 0, .ref (B + 6), .int 0, .ref (C + 6)], aa_H G5)) rfl ?_
  refine zz_fin.scp rfl ⟨⟨by omega, by omega⟩, hB.2.2.2.2.2.2.2.1⟩ ⟨⟨by omega, by omega⟩, hC.2.2.2.2.2.2.2.1⟩ (by decide) rfl ?_
  generalize hG6 : zz_up G5 (B + 6) (va_cpy (G5 (C + 6)) (G5 (B + 6)) 0 0 8) = G6
  refine zz_fin.steps (n := 1) (s' := (107, [some (.ref B), some (.ref C)], [.ref C], aa_H G6)) rfl ?_
  refine zz_fin.sgr rfl ⟨hC.1.1, by omega⟩ (hC.2.1) rfl ?_
  refine zz_fin.steps (n := 2) (s' := (112, [some (.ref B), some (.ref C)], [.ref B, .int 0, .ref (C + 7)], aa_H G6)) rfl ?_
  refine zz_fin.sgr rfl ⟨hB.1.1, by omega⟩ (hB.2.1) rfl ?_
  refine zz_fin.steps (n := 2) (s' := (118, [some (.ref B), some (.ref C)], [.int 40, .int 0, .ref (B + 7), .int 0, .ref (C + 7)], aa_H G6)) rfl ?_
  refine zz_fin.scp rfl ⟨⟨by omega, by omega⟩, hB.2.2.2.2.2.2.2.2.1⟩ ⟨⟨by omega, by omega⟩, hC.2.2.2.2.2.2.2.2.1⟩ (by decide) rfl ?_
  generalize hG7 : zz_up G6 (B + 7) (va_cpy (G6 (C + 7)) (G6 (B + 7)) 0 0 40) = G7
  refine zz_fin.steps (n := 1) (s' := (122, [some (.ref B), some (.ref C)], [.ref C], aa_H G7)) rfl ?_
  refine zz_fin.sgr rfl ⟨hC.1.1, by omega⟩ (hC.2.1) rfl ?_
  refine zz_fin.steps (n := 2) (s' := (127, [some (.ref B), some (.ref C)], [.ref B, .int 0, .ref (C + 8)], aa_H G7)) rfl ?_
  refine zz_fin.sgr rfl ⟨hB.1.1, by omega⟩ (hB.2.1) rfl ?_
  refine zz_fin.steps (n := 2) (s' := (133, [some (.ref B), some (.ref C)], [.int 40, .int 0, .ref (B + 8), .int 0, .ref (C + 8)], aa_H G7)) rfl ?_
  refine zz_fin.scp rfl ⟨⟨by omega, by omega⟩, hB.2.2.2.2.2.2.2.2.2.1⟩ ⟨⟨by omega, by omega⟩, hC.2.2.2.2.2.2.2.2.2.1⟩ (by decide) rfl ?_
  generalize hG8 : zz_up G7 (B + 8) (va_cpy (G7 (C + 8)) (G7 (B + 8)) 0 0 40) = G8
  refine zz_fin.steps (n := 1) (s' := (137, [some (.ref B), some (.ref C)], [.ref C], aa_H G8)) rfl ?_
  refine zz_fin.sgr rfl ⟨hC.1.1, by omega⟩ (hC.2.1) rfl ?_
  refine zz_fin.steps (n := 2) (s' := (142, [some (.ref B), some (.ref C)], [.ref B, .int 0, .ref (C + 9)], aa_H G8)) rfl ?_
  refine zz_fin.sgr rfl ⟨hB.1.1, by omega⟩ (hB.2.1) rfl ?_
  refine zz_fin.steps (n := 2) (s' := (148, [some (.ref B), some (.ref C)], [.int 40, .int 0, .ref (B + 9), .int 0, .ref (C + 9)], aa_H G8)) rfl ?_
  refine zz_fin.scp rfl ⟨⟨by omega, by omega⟩, hB.2.2.2.2.2.2.2.2.2.2⟩ ⟨⟨by omega, by omega⟩, hC.2.2.2.2.2.2.2.2.2.2⟩ (by decide) rfl ?_
  generalize hG9 : zz_up G8 (B + 9) (va_cpy (G8 (C + 9)) (G8 (B + 9)) 0 0 40) = G9
  have c1 := cp_arr hG1
  have c2 := cp_arr hG2
  have c3 := cp_arr hG3
  have c4 := cp_arr hG4
  have c5 := cp_arr hG5
  have c6 := cp_arr hG6
  have c7 := cp_arr hG7
  have c8 := cp_arr hG8
  have c9 := cp_arr hG9
  have b0 : (zz_w (zz_w g B 0 (g C 0)) B 1 ((zz_w g B 0 (g C 0)) C 1)) B 0 = g C 0 := by rw [aa_w_ne _ _ (by omega), aa_w_at]
  have b1 : (zz_w (zz_w g B 0 (g C 0)) B 1 ((zz_w g B 0 (g C 0)) C 1)) B 1 = g C 1 := by rw [aa_w_at, aa_w_ne _ _ (by omega)]
  have bo : ∀ k j, k ≠ B → (zz_w (zz_w g B 0 (g C 0)) B 1 ((zz_w g B 0 (g C 0)) C 1)) k j = g k j := fun k j hk => by rw [aa_w_ne _ _ fun e => hk e.1, aa_w_ne _ _ fun e => hk e.1]
  refine zz_fin.at (n := 1) rfl ⟨rfl, _, rfl, ?_, ?_⟩
  · refine ⟨fun j hj => ?_, fun o j h1 h2 hj => ?_⟩
    · rw [c9.2 _ (by omega), c8.2 _ (by omega), c7.2 _ (by omega), c6.2 _ (by omega), c5.2 _ (by omega), c4.2 _ (by omega), c3.2 _ (by omega), c2.2 _ (by omega), c1.2 _ (by omega)]
      rcases (show j = 0 ∨ j = 1 by omega) with rfl | rfl
      · exact b0
      · exact b1
    · rcases (show o = 1 ∨ o = 2 ∨ o = 3 ∨ o = 4 ∨ o = 5 ∨ o = 6 ∨ o = 7 ∨ o = 8 ∨ o = 9 by omega) with rfl | rfl | rfl | rfl | rfl | rfl | rfl | rfl | rfl
      · rw [c9.2 _ (by omega), c8.2 _ (by omega), c7.2 _ (by omega), c6.2 _ (by omega), c5.2 _ (by omega), c4.2 _ (by omega), c3.2 _ (by omega), c2.2 _ (by omega), c1.1 j (by exact hj)]
        exact bo _ _ (by omega)
      · rw [c9.2 _ (by omega), c8.2 _ (by omega), c7.2 _ (by omega), c6.2 _ (by omega), c5.2 _ (by omega), c4.2 _ (by omega), c3.2 _ (by omega), c2.1 j (by exact hj), c1.2 _ (by omega)]
        exact bo _ _ (by omega)
      · rw [c9.2 _ (by omega), c8.2 _ (by omega), c7.2 _ (by omega), c6.2 _ (by omega), c5.2 _ (by omega), c4.2 _ (by omega), c3.1 j (by exact hj), c2.2 _ (by omega), c1.2 _ (by omega)]
        exact bo _ _ (by omega)
      · rw [c9.2 _ (by omega), c8.2 _ (by omega), c7.2 _ (by omega), c6.2 _ (by omega), c5.2 _ (by omega), c4.1 j (by exact hj), c3.2 _ (by omega), c2.2 _ (by omega), c1.2 _ (by omega)]
        exact bo _ _ (by omega)
      · rw [c9.2 _ (by omega), c8.2 _ (by omega), c7.2 _ (by omega), c6.2 _ (by omega), c5.1 j (by exact hj), c4.2 _ (by omega), c3.2 _ (by omega), c2.2 _ (by omega), c1.2 _ (by omega)]
        exact bo _ _ (by omega)
      · rw [c9.2 _ (by omega), c8.2 _ (by omega), c7.2 _ (by omega), c6.1 j (by exact hj), c5.2 _ (by omega), c4.2 _ (by omega), c3.2 _ (by omega), c2.2 _ (by omega), c1.2 _ (by omega)]
        exact bo _ _ (by omega)
      · rw [c9.2 _ (by omega), c8.2 _ (by omega), c7.1 j (by exact hj), c6.2 _ (by omega), c5.2 _ (by omega), c4.2 _ (by omega), c3.2 _ (by omega), c2.2 _ (by omega), c1.2 _ (by omega)]
        exact bo _ _ (by omega)
      · rw [c9.2 _ (by omega), c8.1 j (by exact hj), c7.2 _ (by omega), c6.2 _ (by omega), c5.2 _ (by omega), c4.2 _ (by omega), c3.2 _ (by omega), c2.2 _ (by omega), c1.2 _ (by omega)]
        exact bo _ _ (by omega)
      · rw [c9.1 j (by exact hj), c8.2 _ (by omega), c7.2 _ (by omega), c6.2 _ (by omega), c5.2 _ (by omega), c4.2 _ (by omega), c3.2 _ (by omega), c2.2 _ (by omega), c1.2 _ (by omega)]
        exact bo _ _ (by omega)
  · intro k j hk
    rw [c9.2 _ (by omega), c8.2 _ (by omega), c7.2 _ (by omega), c6.2 _ (by omega), c5.2 _ (by omega), c4.2 _ (by omega), c3.2 _ (by omega), c2.2 _ (by omega), c1.2 _ (by omega)]
    exact bo _ _ (by omega)
/-- a state has become another one -/
def cp_st (g g' : aa_G) (S F : Nat) : Prop := (∀ j, j < 2 → g' S j = g F j) ∧ cp_bl g g' (S + 2) (F + 2) ∧ ∀ t, t < 4 → cp_tw g g' (5 * t + (S + 12)) (5 * t + (F + 12))
theorem cp_state {g : aa_G} {S F : Nat} (hS : cs_ok S) (hF : cs_ok F) (hd : S + 32 ≤ F ∨ F + 32 ≤ S) : zz_fin none 16 (0, zz_in [.ref S, .ref F] (zz_nl 16), [], aa_H g) (fun v h => v = none ∧ ∃ g', h = aa_H g' ∧ cp_st g g' S F ∧ cp_fr g g' S (S + 31)) := by
  have hS0 := hS.1.1
  have hF0 := hF.1.1
  refine zz_fin.steps (n := 2) (s' := (2, [some (.ref S), some (.ref F), none], [.ref F, .ref S], aa_H g)) rfl ?_
  refine zz_fin.sgf rfl ⟨hF.1.1.1, by omega⟩ (hF.1.2.1) rfl ?_
  refine zz_fin.spf rfl ⟨hS.1.1.1, by omega⟩ (hS.1.2.1) rfl ?_
  refine zz_fin.steps (n := 2) (s' := (10, [some (.ref S), some (.ref F), none], [.ref F, .ref S], aa_H (zz_w g S 0 (g F 0)))) rfl ?_
  refine zz_fin.sgf rfl ⟨hF.1.1.1, by omega⟩ (hF.1.2.1) rfl ?_
  refine zz_fin.spf rfl ⟨hS.1.1.1, by omega⟩ (hS.1.2.1) rfl ?_
  refine zz_fin.steps (n := 2) (s' := (18, [some (.ref S), some (.ref F), some (.int (Int32.ofNat 0))], [], aa_H (zz_w (zz_w g S 0 (g F 0)) S 1 ((zz_w g S 0 (g F 0)) F 1)))) rfl ?_
  generalize hG0 : zz_w (zz_w g S 0 (g F 0)) S 1 ((zz_w g S 0 (g F 0)) F 1) = G0
  refine zz_fin.steps (n := 2) (s' := (20, [some (.ref S), some (.ref F), some (.int (Int32.ofNat 0))], [.int 4, .int (Int32.ofNat 0)], aa_H G0)) rfl ?_
  refine zz_fin.ic rfl (fun cz => absurd cz (by decide)) (fun cz => ?_)
  refine zz_fin.steps (n := 1) (s' := (24, [some (.ref S), some (.ref F), some (.int (Int32.ofNat 0))], [.ref S], aa_H G0)) rfl ?_
  refine zz_fin.sgr rfl ⟨hS.1.1.1, by omega⟩ (hS.1.2.1) rfl ?_
  refine zz_fin.steps (n := 1) (s' := (28, [some (.ref S), some (.ref F), some (.int (Int32.ofNat 0))], [.int (Int32.ofNat 0), .ref (S + 1)], aa_H G0)) rfl ?_
  refine zz_fin.sal rfl ⟨by omega, by omega⟩ (hS.1.2.2) (.inl rfl) (i := 0) (by decide) rfl ?_
  refine zz_fin.steps (n := 1) (s' := (30, [some (.ref S), some (.ref F), some (.int (Int32.ofNat 0))], [.ref F, .ref (S + 12)], aa_H G0)) rfl ?_
  refine zz_fin.sgr rfl ⟨hF.1.1.1, by omega⟩ (hF.1.2.1) rfl ?_
  refine zz_fin.steps (n := 1) (s' := (34, [some (.ref S), some (.ref F), some (.int (Int32.ofNat 0))], [.int (Int32.ofNat 0), .ref (F + 1), .ref (S + 12)], aa_H G0)) rfl ?_
  refine zz_fin.sal rfl ⟨by omega, by omega⟩ (hF.1.2.2) (.inl rfl) (i := 0) (by decide) rfl ?_
  refine zz_fin.callr (as := [.ref (F + 12)]) rfl rfl rfl ⟨by omega, by omega⟩ (hS.2.2.1.2.1) (Nat.le_of_ble_eq_true rfl) (Nat.le_of_ble_eq_true rfl) (cp_town hS.2.2.1 hF.2.2.1 (by omega)) ?_
  rintro v h ⟨rfl, G1, rfl, ct0, cf0⟩
  refine zz_fin.steps (n := 2) (s' := (18, [some (.ref S), some (.ref F), some (.int ((Int32.ofNat 0) + 1))], [], aa_H G1)) rfl ?_
  rw [aa_succ]
  refine zz_fin.steps (n := 2) (s' := (20, [some (.ref S), some (.ref F), some (.int (Int32.ofNat 1))], [.int 4, .int (Int32.ofNat 1)], aa_H G1)) rfl ?_
  refine zz_fin.ic rfl (fun cz => absurd cz (by decide)) (fun cz => ?_)
  refine zz_fin.steps (n := 1) (s' := (24, [some (.ref S), some (.ref F), some (.int (Int32.ofNat 1))], [.ref S], aa_H G1)) rfl ?_
  refine zz_fin.sgr rfl ⟨hS.1.1.1, by omega⟩ (hS.1.2.1) rfl ?_
  refine zz_fin.steps (n := 1) (s' := (28, [some (.ref S), some (.ref F), some (.int (Int32.ofNat 1))], [.int (Int32.ofNat 1), .ref (S + 1)], aa_H G1)) rfl ?_
  refine zz_fin.sal rfl ⟨by omega, by omega⟩ (hS.1.2.2) (.inl rfl) (i := 1) (by decide) rfl ?_
  refine zz_fin.steps (n := 1) (s' := (30, [some (.ref S), some (.ref F), some (.int (Int32.ofNat 1))], [.ref F, .ref (S + 17)], aa_H G1)) rfl ?_
  refine zz_fin.sgr rfl ⟨hF.1.1.1, by omega⟩ (hF.1.2.1) rfl ?_
  refine zz_fin.steps (n := 1) (s' := (34, [some (.ref S), some (.ref F), some (.int (Int32.ofNat 1))], [.int (Int32.ofNat 1), .ref (F + 1), .ref (S + 17)], aa_H G1)) rfl ?_
  refine zz_fin.sal rfl ⟨by omega, by omega⟩ (hF.1.2.2) (.inl rfl) (i := 1) (by decide) rfl ?_
  refine zz_fin.callr (as := [.ref (F + 17)]) rfl rfl rfl ⟨by omega, by omega⟩ (hS.2.2.2.1.2.1) (Nat.le_of_ble_eq_true rfl) (Nat.le_of_ble_eq_true rfl) (cp_town hS.2.2.2.1 hF.2.2.2.1 (by omega)) ?_
  rintro v h ⟨rfl, G2, rfl, ct1, cf1⟩
  refine zz_fin.steps (n := 2) (s' := (18, [some (.ref S), some (.ref F), some (.int ((Int32.ofNat 1) + 1))], [], aa_H G2)) rfl ?_
  rw [aa_succ]
  refine zz_fin.steps (n := 2) (s' := (20, [some (.ref S), some (.ref F), some (.int (Int32.ofNat 2))], [.int 4, .int (Int32.ofNat 2)], aa_H G2)) rfl ?_
  refine zz_fin.ic rfl (fun cz => absurd cz (by decide)) (fun cz => ?_)
  refine zz_fin.steps (n := 1) (s' := (24, [some (.ref S), some (.ref F), some (.int (Int32.ofNat 2))], [.ref S], aa_H G2)) rfl ?_
  refine zz_fin.sgr rfl ⟨hS.1.1.1, by omega⟩ (hS.1.2.1) rfl ?_
  refine zz_fin.steps (n := 1) (s' := (28, [some (.ref S), some (.ref F), some (.int (Int32.ofNat 2))], [.int (Int32.ofNat 2), .ref (S + 1)], aa_H G2)) rfl ?_
  refine zz_fin.sal rfl ⟨by omega, by omega⟩ (hS.1.2.2) (.inl rfl) (i := 2) (by decide) rfl ?_
  refine zz_fin.steps (n := 1) (s' := (30, [some (.ref S), some (.ref F), some (.int (Int32.ofNat 2))], [.ref F, .ref (S + 22)], aa_H G2)) rfl ?_
  refine zz_fin.sgr rfl ⟨hF.1.1.1, by omega⟩ (hF.1.2.1) rfl ?_
  refine zz_fin.steps (n := 1) (s' := (34, [some (.ref S), some (.ref F), some (.int (Int32.ofNat 2))], [.int (Int32.ofNat 2), .ref (F + 1), .ref (S + 22)], aa_H G2)) rfl ?_
  refine zz_fin.sal rfl ⟨by omega, by omega⟩ (hF.1.2.2) (.inl rfl) (i := 2) (by decide) rfl ?_
  refine zz_fin.callr (as := [.ref (F + 22)]) rfl rfl rfl ⟨by omega, by omega⟩ (hS.2.2.2.2.1.2.1) (Nat.le_of_ble_eq_true rfl) (Nat.le_of_ble_eq_true rfl) (cp_town hS.2.2.2.2.1 hF.2.2.2.2.1 (by omega)) ?_
  rintro v h ⟨rfl, G3, rfl, ct2, cf2⟩
  refine zz_fin.steps (n := 2) (s' := (18, [some (.ref S), some (.ref F), some (.int ((Int32.ofNat 2) + 1))], [], aa_H G3)) rfl ?_
  rw [aa_succ]
  refine zz_fin.steps (n := 2) (s' := (20, [some (.ref S), some (.ref F), some (.int (Int32.ofNat 3))], [.int 4, .int (Int32.ofNat 3)], aa_H G3)) rfl ?_
  refine zz_fin.ic rfl (fun cz => absurd cz (by decide)) (fun cz => ?_)
  refine zz_fin.steps (n := 1) (s' := (24, [some (.ref S), some (.ref F), some (.int (Int32.ofNat 3))], [.ref S], aa_H G3)) rfl ?_
  refine zz_fin.sgr rfl ⟨hS.1.1.1, by omega⟩ (hS.1.2.1) rfl ?_
  refine zz_fin.steps (n := 1) (s' := (28, [some (.ref S), some (.ref F), some (.int (Int32.ofNat 3))], [.int (Int32.ofNat 3), .ref (S + 1)], aa_H G3)) rfl ?_
  refine zz_fin.sal rfl ⟨by omega, by omega⟩ (hS.1.2.2) (.inl rfl) (i := 3) (by decide) rfl ?_
  refine zz_fin.steps (n := 1) (s' := (30, [some (.ref S), some (.ref F), some (.int (Int32.ofNat 3))], [.ref F, .ref (S + 27)], aa_H G3)) rfl ?_
  refine zz_fin.sgr rfl ⟨hF.1.1.1, by omega⟩ (hF.1.2.1) rfl ?_
  refine zz_fin.steps (n := 1) (s' := (34, [some (.ref S), some (.ref F), some (.int (Int32.ofNat 3))], [.int (Int32.ofNat 3), .ref (F + 1), .ref (S + 27)], aa_H G3)) rfl ?_
  refine zz_fin.sal rfl ⟨by omega, by omega⟩ (hF.1.2.2) (.inl rfl) (i := 3) (by decide) rfl ?_
  refine zz_fin.callr (as := [.ref (F + 27)]) rfl rfl rfl ⟨by omega, by omega⟩ (hS.2.2.2.2.2.2.1) (Nat.le_of_ble_eq_true rfl) (Nat.le_of_ble_eq_true rfl) (cp_town hS.2.2.2.2.2 hF.2.2.2.2.2 (by omega)) ?_
  rintro v h ⟨rfl, G4, rfl, ct3, cf3⟩
  refine zz_fin.steps (n := 2) (s' := (18, [some (.ref S), some (.ref F), some (.int ((Int32.ofNat 3) + 1))], [], aa_H G4)) rfl ?_
  rw [aa_succ]
  refine zz_fin.steps (n := 2) (s' := (20, [some (.ref S), some (.ref F), some (.int (Int32.ofNat 4))], [.int 4, .int (Int32.ofNat 4)], aa_H G4)) rfl ?_
  refine zz_fin.ic rfl (fun cz => ?_) (fun cz => absurd rfl cz)
  refine zz_fin.steps (n := 1) (s' := (45, [some (.ref S), some (.ref F), some (.int (Int32.ofNat 4))], [.ref S], aa_H G4)) rfl ?_
  refine zz_fin.sgr rfl ⟨hS.1.1.1, by omega⟩ (hS.1.2.1) rfl ?_
  refine zz_fin.steps (n := 1) (s' := (49, [some (.ref S), some (.ref F), some (.int (Int32.ofNat 4))], [.ref F, .ref (S + 2)], aa_H G4)) rfl ?_
  refine zz_fin.sgr rfl ⟨hF.1.1.1, by omega⟩ (hF.1.2.1) rfl ?_
  refine zz_fin.callr (as := [.ref (F + 2)]) rfl rfl rfl ⟨by omega, by omega⟩ (hS.2.1.2.1) (Nat.le_of_ble_eq_true rfl) (Nat.le_of_ble_eq_true rfl) (cp_bells hS.2.1 hF.2.1 (by omega)) ?_
  rintro v h ⟨rfl, G5, rfl, cb, cf4⟩
  have b0 : G0 S 0 = g F 0 := by rw [← hG0, aa_w_ne _ _ (by omega), aa_w_at]
  have b1 : G0 S 1 = g F 1 := by rw [← hG0, aa_w_at, aa_w_ne _ _ (by omega)]
  have bo : ∀ k j, k ≠ S → G0 k j = g k j := fun k j hk => by rw [← hG0, aa_w_ne _ _ fun e => hk e.1, aa_w_ne _ _ fun e => hk e.1]
  refine zz_fin.at (n := 1) rfl ⟨rfl, G5, rfl, ?_, ?_⟩
  · refine ⟨fun j hj => ?_, ⟨fun j hj => ?_, fun o j h1 h2 hj => ?_⟩, fun t ht => ⟨fun j hj => ?_, fun o j h1 h2 hj => ?_⟩⟩
    · rw [cf4 _ _ (by omega), cf3 _ _ (by omega), cf2 _ _ (by omega), cf1 _ _ (by omega), cf0 _ _ (by omega)]
      rcases (show j = 0 ∨ j = 1 by omega) with rfl | rfl
      · exact b0
      · exact b1
    · rw [cb.1 j hj, cf3 _ _ (by omega), cf2 _ _ (by omega), cf1 _ _ (by omega), cf0 _ _ (by omega)]
      exact bo _ _ (by omega)
    · rw [cb.2 o j h1 h2 hj, cf3 _ _ (by omega), cf2 _ _ (by omega), cf1 _ _ (by omega), cf0 _ _ (by omega)]
      exact bo _ _ (by omega)
    · rcases dt_four ht with rfl | rfl | rfl | rfl
      · rw [show 5 * 0 + (S + 12) = S + 12 by omega, show 5 * 0 + (F + 12) = F + 12 by omega, cf4 _ _ (by omega), cf3 _ _ (by omega), cf2 _ _ (by omega), cf1 _ _ (by omega), ct0.1 j hj]
        exact bo _ _ (by omega)
      · rw [show 5 * 1 + (S + 12) = S + 17 by omega, show 5 * 1 + (F + 12) = F + 17 by omega, cf4 _ _ (by omega), cf3 _ _ (by omega), cf2 _ _ (by omega), ct1.1 j hj, cf0 _ _ (by omega)]
        exact bo _ _ (by omega)
      · rw [show 5 * 2 + (S + 12) = S + 22 by omega, show 5 * 2 + (F + 12) = F + 22 by omega, cf4 _ _ (by omega), cf3 _ _ (by omega), ct2.1 j hj, cf1 _ _ (by omega), cf0 _ _ (by omega)]
        exact bo _ _ (by omega)
      · rw [show 5 * 3 + (S + 12) = S + 27 by omega, show 5 * 3 + (F + 12) = F + 27 by omega, cf4 _ _ (by omega), ct3.1 j hj, cf2 _ _ (by omega), cf1 _ _ (by omega), cf0 _ _ (by omega)]
        exact bo _ _ (by omega)
    · rcases dt_four ht with rfl | rfl | rfl | rfl
      · rw [show 5 * 0 + (S + 12) = S + 12 by omega, show 5 * 0 + (F + 12) = F + 12 by omega, cf4 _ _ (by omega), cf3 _ _ (by omega), cf2 _ _ (by omega), cf1 _ _ (by omega), ct0.2 o j h1 h2 hj]
        exact bo _ _ (by omega)
      · rw [show 5 * 1 + (S + 12) = S + 17 by omega, show 5 * 1 + (F + 12) = F + 17 by omega, cf4 _ _ (by omega), cf3 _ _ (by omega), cf2 _ _ (by omega), ct1.2 o j h1 h2 hj, cf0 _ _ (by omega)]
        exact bo _ _ (by omega)
      · rw [show 5 * 2 + (S + 12) = S + 22 by omega, show 5 * 2 + (F + 12) = F + 22 by omega, cf4 _ _ (by omega), cf3 _ _ (by omega), ct2.2 o j h1 h2 hj, cf1 _ _ (by omega), cf0 _ _ (by omega)]
        exact bo _ _ (by omega)
      · rw [show 5 * 3 + (S + 12) = S + 27 by omega, show 5 * 3 + (F + 12) = F + 27 by omega, cf4 _ _ (by omega), ct3.2 o j h1 h2 hj, cf2 _ _ (by omega), cf1 _ _ (by omega), cf0 _ _ (by omega)]
        exact bo _ _ (by omega)
  · intro k j hk
    rw [cf4 _ _ (by omega), cf3 _ _ (by omega), cf2 _ _ (by omega), cf1 _ _ (by omega), cf0 _ _ (by omega)]
    exact bo _ _ (by omega)
