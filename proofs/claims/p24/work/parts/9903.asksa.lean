section
/-! FEED: its bytes, both sides -/
/-- four bytes come behind the tape -/
def fd_ap (f : Int32 → Int32 → Int32) (A k j : Nat) (g g' : aa_G) (c : Nat) (x : Int32) : Prop := g' k j = Int32.ofNat (c + 4) ∧ (∀ i, i < 4 → g' A (c + i) = f x (fd_sh i)) ∧ ∀ a b, ¬ (a = k ∧ b = j) → ¬ (a = A ∧ c ≤ b ∧ b < c + 4) → g' a b = g a b
def fd_st (f : Int32 → Int32 → Int32) (A k j : Nat) (g g' : aa_G) (c m : Nat) (as : Nat → Int32) : Prop := g' k j = Int32.ofNat (c + 4 * m) ∧ (∀ i, i < 4 * m → g' A (c + i) = f (as (i / 4)) (fd_sh (i % 4))) ∧ ∀ a b, ¬ (a = k ∧ b = j) → ¬ (a = A ∧ c ≤ b ∧ b < c + 4 * m) → g' a b = g a b
theorem fd_st.nil {f : Int32 → Int32 → Int32} {A k j : Nat} {g : aa_G} {c : Nat} {as : Nat → Int32} (h : g k j = Int32.ofNat c) : fd_st f A k j g g c 0 as := ⟨h, fun i hi => absurd hi (Nat.not_lt_zero i), fun _ _ _ _ => rfl⟩
theorem fd_st.tr {f : Int32 → Int32 → Int32} {A k j : Nat} {g g1 g2 : aa_G} {c m : Nat} {as : Nat → Int32} (hA : A ≠ k) (h : fd_st f A k j g g1 c m as) (h2 : fd_ap f A k j g1 g2 (c + 4 * m) (as m)) : fd_st f A k j g g2 c (m + 1) as := by
  refine ⟨?_, fun i hi => ?_, fun a b e1 e2 => (h2.2.2 a b e1 (by omega)).trans (h.2.2 a b e1 (by omega))⟩
  · rw [h2.1, show c + 4 * m + 4 = c + 4 * (m + 1) by omega]
  · by_cases hl : i < 4 * m
    · rw [h2.2.2 A (c + i) (fun e => hA e.1) (by omega)]
      exact h.2.1 i hl
    · have k1 := h2.2.1 (i - 4 * m) (by omega)
      rw [show c + 4 * m + (i - 4 * m) = c + i by omega] at k1
      rw [k1, show i / 4 = m by omega, show i % 4 = i - 4 * m by omega]
def fd_args (a b c d e : Int32) : Nat → Int32
  | 0 => a
  | 1 => b
  | 2 => c
  | 3 => d
  | _ => e
theorem zz_fin.bas2 {X : zz_X} {m pc : Nat} {lv : zz_V} {h : zz_H} {φ : Option Value → zz_H → Prop} {i a : Int32} {k n : Nat} {r : List Value} {x y u w : Nat} {vv : Value} {sw : List (Int × Nat)} (hT : zz_T m pc = some (.bastore, (x, y, u, w), vv, sw)) (h1 : zz_arr h (k + 1) 1 = none) (ha : zz_arr h (k + 1) 2 = some n) (hb : zz_inb i n = true) (kk : zz_fin X m (pc + 1, lv, r, (h.1, (h.2.1, zz_w h.2.2 (k + 1) i.toNatClampNeg (vp_nar .byte a)))) φ) : zz_fin X m (pc, lv, .int a :: .int i :: .ref (k + 1) :: r, h) φ := by
  refine zz_fin.step1 hT ?_ kk
  show zz_bas pc lv (.int a :: .int i :: .ref (k + 1) :: r) h = _
  unfold zz_bas
  dsimp only
  rw [h1, ha]
  dsimp only
  rw [if_pos hb]
  rfl
theorem fd_appc {g : aa_G} {c : Nat} {x : Int32} (hc : c + 4 ≤ 500) (h0 : g 454 0 = Int32.ofNat c) : zz_fin none 12 (0, zz_in [.ref 454, .int x] (zz_nl 12), [], aa_H g) (fun v h => v = none ∧ ∃ g', h = aa_H g' ∧ fd_ap cf_byte 455 454 0 g g' c x) := by
  refine zz_fin.steps (n := 2) (s' := (3, [some (.ref 454), some (.int x), some (.int 24)], [], aa_H g)) rfl ?_
  refine zz_fin.steps (n := 1) (s' := (4, [some (.ref 454), some (.int x), some (.int 24)], [.int 24], aa_H g)) rfl ?_
  refine zz_fin.if rfl (fun cz => absurd cz (by decide)) (fun cz => ?_)
  refine zz_fin.steps (n := 3) (s' := (14, [some (.ref 454), some (.int x), some (.int 24)], [.int 500, .int (g 454 0)], aa_H g)) rfl ?_
  rw [h0]
  refine zz_fin.ic rfl (fun cz => ?_) (fun cz => ?_)
  · have cz : (500 : Int32).toInt ≤ (Int32.ofNat (c)).toInt := aa_le32.mp (of_decide_eq_true cz)
    rw [zz_ofN (by omega), show (500 : Int32).toInt = 500 from rfl] at cz
    omega
  · skip
    refine zz_fin.steps (n := 9) (s' := (32, [some (.ref 454), some (.int x), some (.int 24)], [.int (((x.toUInt32 >>> ((24 : Int32).toUInt32 &&& Int32.toUInt32 31)).toInt32) &&& 255), .int (g 454 0), .ref 455], aa_H g)) rfl ?_
    rw [h0]
    refine zz_fin.ias (n := 500) rfl rfl (zz_inbN (by omega) (by omega)) ?_
    rw [zz_toN (by omega)]
    refine zz_fin.steps (n := 0) (s' := (33, [some (.ref 454), some (.int x), some (.int 24)], [], aa_H (zz_w g 455 (c) (cf_byte x 24)))) rfl ?_
    have k0 : (zz_w g 455 (c) (cf_byte x 24)) 454 0 = Int32.ofNat (c) := (aa_w_ne _ _ (by omega)).trans h0
    refine zz_fin.steps (n := 5) (s' := (40, [some (.ref 454), some (.int x), some (.int 24)], [.int (((zz_w g 455 (c) (cf_byte x 24)) 454 0) + 1), .ref 454], aa_H (zz_w g 455 (c) (cf_byte x 24)))) rfl ?_
    rw [k0, aa_succ]
    refine zz_fin.steps (n := 1) (s' := (43, [some (.ref 454), some (.int x), some (.int 24)], [], aa_H (zz_w (zz_w g 455 (c) (cf_byte x 24)) 454 0 (Int32.ofNat (c + 1))))) rfl ?_
    have h1 : (zz_w (zz_w g 455 (c) (cf_byte x 24)) 454 0 (Int32.ofNat (c + 1))) 454 0 = Int32.ofNat (c + 1) := aa_w_at _ _ _ _
    refine zz_fin.steps (n := 2) (s' := (3, [some (.ref 454), some (.int x), some (.int (24 + (-8)))], [], aa_H (zz_w (zz_w g 455 (c) (cf_byte x 24)) 454 0 (Int32.ofNat (c + 1))))) rfl ?_
    refine zz_fin.steps (n := 0) (s' := (3, [some (.ref 454), some (.int x), some (.int 16)], [], aa_H (zz_w (zz_w g 455 (c) (cf_byte x 24)) 454 0 (Int32.ofNat (c + 1))))) rfl ?_
    refine zz_fin.steps (n := 1) (s' := (4, [some (.ref 454), some (.int x), some (.int 16)], [.int 16], aa_H (zz_w (zz_w g 455 (c) (cf_byte x 24)) 454 0 (Int32.ofNat (c + 1))))) rfl ?_
    refine zz_fin.if rfl (fun cz => absurd cz (by decide)) (fun cz => ?_)
    refine zz_fin.steps (n := 3) (s' := (14, [some (.ref 454), some (.int x), some (.int 16)], [.int 500, .int ((zz_w (zz_w g 455 (c) (cf_byte x 24)) 454 0 (Int32.ofNat (c + 1))) 454 0)], aa_H (zz_w (zz_w g 455 (c) (cf_byte x 24)) 454 0 (Int32.ofNat (c + 1))))) rfl ?_
    rw [h1]
    refine zz_fin.ic rfl (fun cz => ?_) (fun cz => ?_)
    · have cz : (500 : Int32).toInt ≤ (Int32.ofNat (c + 1)).toInt := aa_le32.mp (of_decide_eq_true cz)
      rw [zz_ofN (by omega), show (500 : Int32).toInt = 500 from rfl] at cz
      omega
    · skip
      refine zz_fin.steps (n := 9) (s' := (32, [some (.ref 454), some (.int x), some (.int 16)], [.int (((x.toUInt32 >>> ((16 : Int32).toUInt32 &&& Int32.toUInt32 31)).toInt32) &&& 255), .int ((zz_w (zz_w g 455 (c) (cf_byte x 24)) 454 0 (Int32.ofNat (c + 1))) 454 0), .ref 455], aa_H (zz_w (zz_w g 455 (c) (cf_byte x 24)) 454 0 (Int32.ofNat (c + 1))))) rfl ?_
      rw [h1]
      refine zz_fin.ias (n := 500) rfl rfl (zz_inbN (by omega) (by omega)) ?_
      rw [zz_toN (by omega)]
      refine zz_fin.steps (n := 0) (s' := (33, [some (.ref 454), some (.int x), some (.int 16)], [], aa_H (zz_w (zz_w (zz_w g 455 (c) (cf_byte x 24)) 454 0 (Int32.ofNat (c + 1))) 455 (c + 1) (cf_byte x 16)))) rfl ?_
      have k1 : (zz_w (zz_w (zz_w g 455 (c) (cf_byte x 24)) 454 0 (Int32.ofNat (c + 1))) 455 (c + 1) (cf_byte x 16)) 454 0 = Int32.ofNat (c + 1) := (aa_w_ne _ _ (by omega)).trans h1
      refine zz_fin.steps (n := 5) (s' := (40, [some (.ref 454), some (.int x), some (.int 16)], [.int (((zz_w (zz_w (zz_w g 455 (c) (cf_byte x 24)) 454 0 (Int32.ofNat (c + 1))) 455 (c + 1) (cf_byte x 16)) 454 0) + 1), .ref 454], aa_H (zz_w (zz_w (zz_w g 455 (c) (cf_byte x 24)) 454 0 (Int32.ofNat (c + 1))) 455 (c + 1) (cf_byte x 16)))) rfl ?_
      rw [k1, aa_succ]
      refine zz_fin.steps (n := 1) (s' := (43, [some (.ref 454), some (.int x), some (.int 16)], [], aa_H (zz_w (zz_w (zz_w (zz_w g 455 (c) (cf_byte x 24)) 454 0 (Int32.ofNat (c + 1))) 455 (c + 1) (cf_byte x 16)) 454 0 (Int32.ofNat (c + 1 + 1))))) rfl ?_
      have h2 : (zz_w (zz_w (zz_w (zz_w g 455 (c) (cf_byte x 24)) 454 0 (Int32.ofNat (c + 1))) 455 (c + 1) (cf_byte x 16)) 454 0 (Int32.ofNat (c + 1 + 1))) 454 0 = Int32.ofNat (c + 2) := aa_w_at _ _ _ _
      refine zz_fin.steps (n := 2) (s' := (3, [some (.ref 454), some (.int x), some (.int (16 + (-8)))], [], aa_H (zz_w (zz_w (zz_w (zz_w g 455 (c) (cf_byte x 24)) 454 0 (Int32.ofNat (c + 1))) 455 (c + 1) (cf_byte x 16)) 454 0 (Int32.ofNat (c + 1 + 1))))) rfl ?_
      refine zz_fin.steps (n := 0) (s' := (3, [some (.ref 454), some (.int x), some (.int 8)], [], aa_H (zz_w (zz_w (zz_w (zz_w g 455 (c) (cf_byte x 24)) 454 0 (Int32.ofNat (c + 1))) 455 (c + 1) (cf_byte x 16)) 454 0 (Int32.ofNat (c + 1 + 1))))) rfl ?_
      refine zz_fin.steps (n := 1) (s' := (4, [some (.ref 454), some (.int x), some (.int 8)], [.int 8], aa_H (zz_w (zz_w (zz_w (zz_w g 455 (c) (cf_byte x 24)) 454 0 (Int32.ofNat (c + 1))) 455 (c + 1) (cf_byte x 16)) 454 0 (Int32.ofNat (c + 1 + 1))))) rfl ?_
      refine zz_fin.if rfl (fun cz => absurd cz (by decide)) (fun cz => ?_)
      refine zz_fin.steps (n := 3) (s' := (14, [some (.ref 454), some (.int x), some (.int 8)], [.int 500, .int ((zz_w (zz_w (zz_w (zz_w g 455 (c) (cf_byte x 24)) 454 0 (Int32.ofNat (c + 1))) 455 (c + 1) (cf_byte x 16)) 454 0 (Int32.ofNat (c + 1 + 1))) 454 0)], aa_H (zz_w (zz_w (zz_w (zz_w g 455 (c) (cf_byte x 24)) 454 0 (Int32.ofNat (c + 1))) 455 (c + 1) (cf_byte x 16)) 454 0 (Int32.ofNat (c + 1 + 1))))) rfl ?_
      rw [h2]
      refine zz_fin.ic rfl (fun cz => ?_) (fun cz => ?_)
      · have cz : (500 : Int32).toInt ≤ (Int32.ofNat (c + 2)).toInt := aa_le32.mp (of_decide_eq_true cz)
        rw [zz_ofN (by omega), show (500 : Int32).toInt = 500 from rfl] at cz
        omega
      · skip
        refine zz_fin.steps (n := 9) (s' := (32, [some (.ref 454), some (.int x), some (.int 8)], [.int (((x.toUInt32 >>> ((8 : Int32).toUInt32 &&& Int32.toUInt32 31)).toInt32) &&& 255), .int ((zz_w (zz_w (zz_w (zz_w g 455 (c) (cf_byte x 24)) 454 0 (Int32.ofNat (c + 1))) 455 (c + 1) (cf_byte x 16)) 454 0 (Int32.ofNat (c + 1 + 1))) 454 0), .ref 455], aa_H (zz_w (zz_w (zz_w (zz_w g 455 (c) (cf_byte x 24)) 454 0 (Int32.ofNat (c + 1))) 455 (c + 1) (cf_byte x 16)) 454 0 (Int32.ofNat (c + 1 + 1))))) rfl ?_
        rw [h2]
        refine zz_fin.ias (n := 500) rfl rfl (zz_inbN (by omega) (by omega)) ?_
        rw [zz_toN (by omega)]
        refine zz_fin.steps (n := 0) (s' := (33, [some (.ref 454), some (.int x), some (.int 8)], [], aa_H (zz_w (zz_w (zz_w (zz_w (zz_w g 455 (c) (cf_byte x 24)) 454 0 (Int32.ofNat (c + 1))) 455 (c + 1) (cf_byte x 16)) 454 0 (Int32.ofNat (c + 1 + 1))) 455 (c + 2) (cf_byte x 8)))) rfl ?_
        have k2 : (zz_w (zz_w (zz_w (zz_w (zz_w g 455 (c) (cf_byte x 24)) 454 0 (Int32.ofNat (c + 1))) 455 (c + 1) (cf_byte x 16)) 454 0 (Int32.ofNat (c + 1 + 1))) 455 (c + 2) (cf_byte x 8)) 454 0 = Int32.ofNat (c + 2) := (aa_w_ne _ _ (by omega)).trans h2
        refine zz_fin.steps (n := 5) (s' := (40, [some (.ref 454), some (.int x), some (.int 8)], [.int (((zz_w (zz_w (zz_w (zz_w (zz_w g 455 (c) (cf_byte x 24)) 454 0 (Int32.ofNat (c + 1))) 455 (c + 1) (cf_byte x 16)) 454 0 (Int32.ofNat (c + 1 + 1))) 455 (c + 2) (cf_byte x 8)) 454 0) + 1), .ref 454], aa_H (zz_w (zz_w (zz_w (zz_w (zz_w g 455 (c) (cf_byte x 24)) 454 0 (Int32.ofNat (c + 1))) 455 (c + 1) (cf_byte x 16)) 454 0 (Int32.ofNat (c + 1 + 1))) 455 (c + 2) (cf_byte x 8)))) rfl ?_
        rw [k2, aa_succ]
        refine zz_fin.steps (n := 1) (s' := (43, [some (.ref 454), some (.int x), some (.int 8)], [], aa_H (zz_w (zz_w (zz_w (zz_w (zz_w (zz_w g 455 (c) (cf_byte x 24)) 454 0 (Int32.ofNat (c + 1))) 455 (c + 1) (cf_byte x 16)) 454 0 (Int32.ofNat (c + 1 + 1))) 455 (c + 2) (cf_byte x 8)) 454 0 (Int32.ofNat (c + 2 + 1))))) rfl ?_
        have h3 : (zz_w (zz_w (zz_w (zz_w (zz_w (zz_w g 455 (c) (cf_byte x 24)) 454 0 (Int32.ofNat (c + 1))) 455 (c + 1) (cf_byte x 16)) 454 0 (Int32.ofNat (c + 1 + 1))) 455 (c + 2) (cf_byte x 8)) 454 0 (Int32.ofNat (c + 2 + 1))) 454 0 = Int32.ofNat (c + 3) := aa_w_at _ _ _ _
        refine zz_fin.steps (n := 2) (s' := (3, [some (.ref 454), some (.int x), some (.int (8 + (-8)))], [], aa_H (zz_w (zz_w (zz_w (zz_w (zz_w (zz_w g 455 (c) (cf_byte x 24)) 454 0 (Int32.ofNat (c + 1))) 455 (c + 1) (cf_byte x 16)) 454 0 (Int32.ofNat (c + 1 + 1))) 455 (c + 2) (cf_byte x 8)) 454 0 (Int32.ofNat (c + 2 + 1))))) rfl ?_
        refine zz_fin.steps (n := 0) (s' := (3, [some (.ref 454), some (.int x), some (.int 0)], [], aa_H (zz_w (zz_w (zz_w (zz_w (zz_w (zz_w g 455 (c) (cf_byte x 24)) 454 0 (Int32.ofNat (c + 1))) 455 (c + 1) (cf_byte x 16)) 454 0 (Int32.ofNat (c + 1 + 1))) 455 (c + 2) (cf_byte x 8)) 454 0 (Int32.ofNat (c + 2 + 1))))) rfl ?_
        refine zz_fin.steps (n := 1) (s' := (4, [some (.ref 454), some (.int x), some (.int 0)], [.int 0], aa_H (zz_w (zz_w (zz_w (zz_w (zz_w (zz_w g 455 (c) (cf_byte x 24)) 454 0 (Int32.ofNat (c + 1))) 455 (c + 1) (cf_byte x 16)) 454 0 (Int32.ofNat (c + 1 + 1))) 455 (c + 2) (cf_byte x 8)) 454 0 (Int32.ofNat (c + 2 + 1))))) rfl ?_
        refine zz_fin.if rfl (fun cz => absurd cz (by decide)) (fun cz => ?_)
        refine zz_fin.steps (n := 3) (s' := (14, [some (.ref 454), some (.int x), some (.int 0)], [.int 500, .int ((zz_w (zz_w (zz_w (zz_w (zz_w (zz_w g 455 (c) (cf_byte x 24)) 454 0 (Int32.ofNat (c + 1))) 455 (c + 1) (cf_byte x 16)) 454 0 (Int32.ofNat (c + 1 + 1))) 455 (c + 2) (cf_byte x 8)) 454 0 (Int32.ofNat (c + 2 + 1))) 454 0)], aa_H (zz_w (zz_w (zz_w (zz_w (zz_w (zz_w g 455 (c) (cf_byte x 24)) 454 0 (Int32.ofNat (c + 1))) 455 (c + 1) (cf_byte x 16)) 454 0 (Int32.ofNat (c + 1 + 1))) 455 (c + 2) (cf_byte x 8)) 454 0 (Int32.ofNat (c + 2 + 1))))) rfl ?_
        rw [h3]
        refine zz_fin.ic rfl (fun cz => ?_) (fun cz => ?_)
        · have cz : (500 : Int32).toInt ≤ (Int32.ofNat (c + 3)).toInt := aa_le32.mp (of_decide_eq_true cz)
          rw [zz_ofN (by omega), show (500 : Int32).toInt = 500 from rfl] at cz
          omega
        · skip
          refine zz_fin.steps (n := 9) (s' := (32, [some (.ref 454), some (.int x), some (.int 0)], [.int (((x.toUInt32 >>> ((0 : Int32).toUInt32 &&& Int32.toUInt32 31)).toInt32) &&& 255), .int ((zz_w (zz_w (zz_w (zz_w (zz_w (zz_w g 455 (c) (cf_byte x 24)) 454 0 (Int32.ofNat (c + 1))) 455 (c + 1) (cf_byte x 16)) 454 0 (Int32.ofNat (c + 1 + 1))) 455 (c + 2) (cf_byte x 8)) 454 0 (Int32.ofNat (c + 2 + 1))) 454 0), .ref 455], aa_H (zz_w (zz_w (zz_w (zz_w (zz_w (zz_w g 455 (c) (cf_byte x 24)) 454 0 (Int32.ofNat (c + 1))) 455 (c + 1) (cf_byte x 16)) 454 0 (Int32.ofNat (c + 1 + 1))) 455 (c + 2) (cf_byte x 8)) 454 0 (Int32.ofNat (c + 2 + 1))))) rfl ?_
          rw [h3]
          refine zz_fin.ias (n := 500) rfl rfl (zz_inbN (by omega) (by omega)) ?_
          rw [zz_toN (by omega)]
          refine zz_fin.steps (n := 0) (s' := (33, [some (.ref 454), some (.int x), some (.int 0)], [], aa_H (zz_w (zz_w (zz_w (zz_w (zz_w (zz_w (zz_w g 455 (c) (cf_byte x 24)) 454 0 (Int32.ofNat (c + 1))) 455 (c + 1) (cf_byte x 16)) 454 0 (Int32.ofNat (c + 1 + 1))) 455 (c + 2) (cf_byte x 8)) 454 0 (Int32.ofNat (c + 2 + 1))) 455 (c + 3) (cf_byte x 0)))) rfl ?_
          have k3 : (zz_w (zz_w (zz_w (zz_w (zz_w (zz_w (zz_w g 455 (c) (cf_byte x 24)) 454 0 (Int32.ofNat (c + 1))) 455 (c + 1) (cf_byte x 16)) 454 0 (Int32.ofNat (c + 1 + 1))) 455 (c + 2) (cf_byte x 8)) 454 0 (Int32.ofNat (c + 2 + 1))) 455 (c + 3) (cf_byte x 0)) 454 0 = Int32.ofNat (c + 3) := (aa_w_ne _ _ (by omega)).trans h3
          refine zz_fin.steps (n := 5) (s' := (40, [some (.ref 454), some (.int x), some (.int 0)], [.int (((zz_w (zz_w (zz_w (zz_w (zz_w (zz_w (zz_w g 455 (c) (cf_byte x 24)) 454 0 (Int32.ofNat (c + 1))) 455 (c + 1) (cf_byte x 16)) 454 0 (Int32.ofNat (c + 1 + 1))) 455 (c + 2) (cf_byte x 8)) 454 0 (Int32.ofNat (c + 2 + 1))) 455 (c + 3) (cf_byte x 0)) 454 0) + 1), .ref 454], aa_H (zz_w (zz_w (zz_w (zz_w (zz_w (zz_w (zz_w g 455 (c) (cf_byte x 24)) 454 0 (Int32.ofNat (c + 1))) 455 (c + 1) (cf_byte x 16)) 454 0 (Int32.ofNat (c + 1 + 1))) 455 (c + 2) (cf_byte x 8)) 454 0 (Int32.ofNat (c + 2 + 1))) 455 (c + 3) (cf_byte x 0)))) rfl ?_
          rw [k3, aa_succ]
          refine zz_fin.steps (n := 1) (s' := (43, [some (.ref 454), some (.int x), some (.int 0)], [], aa_H (zz_w (zz_w (zz_w (zz_w (zz_w (zz_w (zz_w (zz_w g 455 (c) (cf_byte x 24)) 454 0 (Int32.ofNat (c + 1))) 455 (c + 1) (cf_byte x 16)) 454 0 (Int32.ofNat (c + 1 + 1))) 455 (c + 2) (cf_byte x 8)) 454 0 (Int32.ofNat (c + 2 + 1))) 455 (c + 3) (cf_byte x 0)) 454 0 (Int32.ofNat (c + 3 + 1))))) rfl ?_
          have h4 : (zz_w (zz_w (zz_w (zz_w (zz_w (zz_w (zz_w (zz_w g 455 (c) (cf_byte x 24)) 454 0 (Int32.ofNat (c + 1))) 455 (c + 1) (cf_byte x 16)) 454 0 (Int32.ofNat (c + 1 + 1))) 455 (c + 2) (cf_byte x 8)) 454 0 (Int32.ofNat (c + 2 + 1))) 455 (c + 3) (cf_byte x 0)) 454 0 (Int32.ofNat (c + 3 + 1))) 454 0 = Int32.ofNat (c + 4) := aa_w_at _ _ _ _
          refine zz_fin.steps (n := 2) (s' := (3, [some (.ref 454), some (.int x), some (.int (0 + (-8)))], [], aa_H (zz_w (zz_w (zz_w (zz_w (zz_w (zz_w (zz_w (zz_w g 455 (c) (cf_byte x 24)) 454 0 (Int32.ofNat (c + 1))) 455 (c + 1) (cf_byte x 16)) 454 0 (Int32.ofNat (c + 1 + 1))) 455 (c + 2) (cf_byte x 8)) 454 0 (Int32.ofNat (c + 2 + 1))) 455 (c + 3) (cf_byte x 0)) 454 0 (Int32.ofNat (c + 3 + 1))))) rfl ?_
          refine zz_fin.steps (n := 0) (s' := (3, [some (.ref 454), some (.int x), some (.int (-8))], [], aa_H (zz_w (zz_w (zz_w (zz_w (zz_w (zz_w (zz_w (zz_w g 455 (c) (cf_byte x 24)) 454 0 (Int32.ofNat (c + 1))) 455 (c + 1) (cf_byte x 16)) 454 0 (Int32.ofNat (c + 1 + 1))) 455 (c + 2) (cf_byte x 8)) 454 0 (Int32.ofNat (c + 2 + 1))) 455 (c + 3) (cf_byte x 0)) 454 0 (Int32.ofNat (c + 3 + 1))))) rfl ?_
          refine zz_fin.steps (n := 1) (s' := (4, [some (.ref 454), some (.int x), some (.int (-8))], [.int (-8)], aa_H (zz_w (zz_w (zz_w (zz_w (zz_w (zz_w (zz_w (zz_w g 455 (c) (cf_byte x 24)) 454 0 (Int32.ofNat (c + 1))) 455 (c + 1) (cf_byte x 16)) 454 0 (Int32.ofNat (c + 1 + 1))) 455 (c + 2) (cf_byte x 8)) 454 0 (Int32.ofNat (c + 2 + 1))) 455 (c + 3) (cf_byte x 0)) 454 0 (Int32.ofNat (c + 3 + 1))))) rfl ?_
          refine zz_fin.if rfl (fun cz => ?_) (fun cz => absurd (by decide) cz)
          refine zz_fin.at (n := 1) rfl ⟨rfl, _, rfl, aa_w_at _ _ _ _, fun i hi => ?_, fun a b e1 e2 => ?_⟩
          · have h4 : i = 0 ∨ i = 1 ∨ i = 2 ∨ i = 3 := by omega
            rcases h4 with rfl | rfl | rfl | rfl
            · rw [aa_w_ne _ _ (by omega), aa_w_ne _ _ (by omega), aa_w_ne _ _ (by omega), aa_w_ne _ _ (by omega), aa_w_ne _ _ (by omega), aa_w_ne _ _ (by omega), aa_w_ne _ _ (by omega)]
              exact aa_w_at _ _ _ _
            · rw [aa_w_ne _ _ (by omega), aa_w_ne _ _ (by omega), aa_w_ne _ _ (by omega), aa_w_ne _ _ (by omega), aa_w_ne _ _ (by omega)]
              exact aa_w_at _ _ _ _
            · rw [aa_w_ne _ _ (by omega), aa_w_ne _ _ (by omega), aa_w_ne _ _ (by omega)]
              exact aa_w_at _ _ _ _
            · rw [aa_w_ne _ _ (by omega)]
              exact aa_w_at _ _ _ _
          · rw [aa_w_ne _ _ (by omega), aa_w_ne _ _ (by omega), aa_w_ne _ _ (by omega), aa_w_ne _ _ (by omega), aa_w_ne _ _ (by omega), aa_w_ne _ _ (by omega), aa_w_ne _ _ (by omega), aa_w_ne _ _ (by omega)]
theorem fd_appm {g : aa_G} {c : Nat} {x : Int32} (hc : c + 4 ≤ 500) (h0 : g 540 4 = Int32.ofNat c) : zz_fin none 159 (0, zz_in [.ref 540, .int x] (zz_nl 159), [], aa_H g) (fun v h => v = none ∧ ∃ g', h = aa_H g' ∧ fd_ap mf_byte 543 540 4 g g' c x) := by
  refine zz_fin.steps (n := 2) (s' := (3, [some (.ref 540), some (.int x), some (.int 24)], [], aa_H g)) rfl ?_
  refine zz_fin.steps (n := 1) (s' := (4, [some (.ref 540), some (.int x), some (.int 24)], [.int 24], aa_H g)) rfl ?_
  refine zz_fin.if rfl (fun cz => absurd cz (by decide)) (fun cz => ?_)
  refine zz_fin.steps (n := 8) (s' := (19, [some (.ref 540), some (.int x), some (.int 24)], [.int ((x >>> ((24 : Int32) &&& 31)).toInt8.toInt32), .int (g 540 4), .ref 543], aa_H g)) rfl ?_
  rw [h0]
  refine zz_fin.bas2 (n := 500) rfl rfl rfl (zz_inbN (by omega) (by omega)) ?_
  rw [zz_toN (by omega)]
  refine zz_fin.steps (n := 0) (s' := (20, [some (.ref 540), some (.int x), some (.int 24)], [], aa_H (zz_w g 543 (c) (mf_byte x 24)))) rfl ?_
  have k0 : (zz_w g 543 (c) (mf_byte x 24)) 540 4 = Int32.ofNat (c) := (aa_w_ne _ _ (by omega)).trans h0
  refine zz_fin.steps (n := 5) (s' := (27, [some (.ref 540), some (.int x), some (.int 24)], [.int (((zz_w g 543 (c) (mf_byte x 24)) 540 4) + 1), .ref 540], aa_H (zz_w g 543 (c) (mf_byte x 24)))) rfl ?_
  rw [k0, aa_succ]
  refine zz_fin.steps (n := 1) (s' := (30, [some (.ref 540), some (.int x), some (.int 24)], [], aa_H (zz_w (zz_w g 543 (c) (mf_byte x 24)) 540 4 (Int32.ofNat (c + 1))))) rfl ?_
  have h1 : (zz_w (zz_w g 543 (c) (mf_byte x 24)) 540 4 (Int32.ofNat (c + 1))) 540 4 = Int32.ofNat (c + 1) := aa_w_at _ _ _ _
  refine zz_fin.steps (n := 2) (s' := (3, [some (.ref 540), some (.int x), some (.int (24 + (-8)))], [], aa_H (zz_w (zz_w g 543 (c) (mf_byte x 24)) 540 4 (Int32.ofNat (c + 1))))) rfl ?_
  refine zz_fin.steps (n := 0) (s' := (3, [some (.ref 540), some (.int x), some (.int 16)], [], aa_H (zz_w (zz_w g 543 (c) (mf_byte x 24)) 540 4 (Int32.ofNat (c + 1))))) rfl ?_
  refine zz_fin.steps (n := 1) (s' := (4, [some (.ref 540), some (.int x), some (.int 16)], [.int 16], aa_H (zz_w (zz_w g 543 (c) (mf_byte x 24)) 540 4 (Int32.ofNat (c + 1))))) rfl ?_
  refine zz_fin.if rfl (fun cz => absurd cz (by decide)) (fun cz => ?_)
  refine zz_fin.steps (n := 8) (s' := (19, [some (.ref 540), some (.int x), some (.int 16)], [.int ((x >>> ((16 : Int32) &&& 31)).toInt8.toInt32), .int ((zz_w (zz_w g 543 (c) (mf_byte x 24)) 540 4 (Int32.ofNat (c + 1))) 540 4), .ref 543], aa_H (zz_w (zz_w g 543 (c) (mf_byte x 24)) 540 4 (Int32.ofNat (c + 1))))) rfl ?_
  rw [h1]
  refine zz_fin.bas2 (n := 500) rfl rfl rfl (zz_inbN (by omega) (by omega)) ?_
  rw [zz_toN (by omega)]
  refine zz_fin.steps (n := 0) (s' := (20, [some (.ref 540), some (.int x), some (.int 16)], [], aa_H (zz_w (zz_w (zz_w g 543 (c) (mf_byte x 24)) 540 4 (Int32.ofNat (c + 1))) 543 (c + 1) (mf_byte x 16)))) rfl ?_
  have k1 : (zz_w (zz_w (zz_w g 543 (c) (mf_byte x 24)) 540 4 (Int32.ofNat (c + 1))) 543 (c + 1) (mf_byte x 16)) 540 4 = Int32.ofNat (c + 1) := (aa_w_ne _ _ (by omega)).trans h1
  refine zz_fin.steps (n := 5) (s' := (27, [some (.ref 540), some (.int x), some (.int 16)], [.int (((zz_w (zz_w (zz_w g 543 (c) (mf_byte x 24)) 540 4 (Int32.ofNat (c + 1))) 543 (c + 1) (mf_byte x 16)) 540 4) + 1), .ref 540], aa_H (zz_w (zz_w (zz_w g 543 (c) (mf_byte x 24)) 540 4 (Int32.ofNat (c + 1))) 543 (c + 1) (mf_byte x 16)))) rfl ?_
  rw [k1, aa_succ]
  refine zz_fin.steps (n := 1) (s' := (30, [some (.ref 540), some (.int x), some (.int 16)], [], aa_H (zz_w (zz_w (zz_w (zz_w g 543 (c) (mf_byte x 24)) 540 4 (Int32.ofNat (c + 1))) 543 (c + 1) (mf_byte x 16)) 540 4 (Int32.ofNat (c + 1 + 1))))) rfl ?_
  have h2 : (zz_w (zz_w (zz_w (zz_w g 543 (c) (mf_byte x 24)) 540 4 (Int32.ofNat (c + 1))) 543 (c + 1) (mf_byte x 16)) 540 4 (Int32.ofNat (c + 1 + 1))) 540 4 = Int32.ofNat (c + 2) := aa_w_at _ _ _ _
  refine zz_fin.steps (n := 2) (s' := (3, [some (.ref 540), some (.int x), some (.int (16 + (-8)))], [], aa_H (zz_w (zz_w (zz_w (zz_w g 543 (c) (mf_byte x 24)) 540 4 (Int32.ofNat (c + 1))) 543 (c + 1) (mf_byte x 16)) 540 4 (Int32.ofNat (c + 1 + 1))))) rfl ?_
  refine zz_fin.steps (n := 0) (s' := (3, [some (.ref 540), some (.int x), some (.int 8)], [], aa_H (zz_w (zz_w (zz_w (zz_w g 543 (c) (mf_byte x 24)) 540 4 (Int32.ofNat (c + 1))) 543 (c + 1) (mf_byte x 16)) 540 4 (Int32.ofNat (c + 1 + 1))))) rfl ?_
  refine zz_fin.steps (n := 1) (s' := (4, [some (.ref 540), some (.int x), some (.int 8)], [.int 8], aa_H (zz_w (zz_w (zz_w (zz_w g 543 (c) (mf_byte x 24)) 540 4 (Int32.ofNat (c + 1))) 543 (c + 1) (mf_byte x 16)) 540 4 (Int32.ofNat (c + 1 + 1))))) rfl ?_
  refine zz_fin.if rfl (fun cz => absurd cz (by decide)) (fun cz => ?_)
  refine zz_fin.steps (n := 8) (s' := (19, [some (.ref 540), some (.int x), some (.int 8)], [.int ((x >>> ((8 : Int32) &&& 31)).toInt8.toInt32), .int ((zz_w (zz_w (zz_w (zz_w g 543 (c) (mf_byte x 24)) 540 4 (Int32.ofNat (c + 1))) 543 (c + 1) (mf_byte x 16)) 540 4 (Int32.ofNat (c + 1 + 1))) 540 4), .ref 543], aa_H (zz_w (zz_w (zz_w (zz_w g 543 (c) (mf_byte x 24)) 540 4 (Int32.ofNat (c + 1))) 543 (c + 1) (mf_byte x 16)) 540 4 (Int32.ofNat (c + 1 + 1))))) rfl ?_
  rw [h2]
  refine zz_fin.bas2 (n := 500) rfl rfl rfl (zz_inbN (by omega) (by omega)) ?_
  rw [zz_toN (by omega)]
  refine zz_fin.steps (n := 0) (s' := (20, [some (.ref 540), some (.int x), some (.int 8)], [], aa_H (zz_w (zz_w (zz_w (zz_w (zz_w g 543 (c) (mf_byte x 24)) 540 4 (Int32.ofNat (c + 1))) 543 (c + 1) (mf_byte x 16)) 540 4 (Int32.ofNat (c + 1 + 1))) 543 (c + 2) (mf_byte x 8)))) rfl ?_
  have k2 : (zz_w (zz_w (zz_w (zz_w (zz_w g 543 (c) (mf_byte x 24)) 540 4 (Int32.ofNat (c + 1))) 543 (c + 1) (mf_byte x 16)) 540 4 (Int32.ofNat (c + 1 + 1))) 543 (c + 2) (mf_byte x 8)) 540 4 = Int32.ofNat (c + 2) := (aa_w_ne _ _ (by omega)).trans h2
  refine zz_fin.steps (n := 5) (s' := (27, [some (.ref 540), some (.int x), some (.int 8)], [.int (((zz_w (zz_w (zz_w (zz_w (zz_w g 543 (c) (mf_byte x 24)) 540 4 (Int32.ofNat (c + 1))) 543 (c + 1) (mf_byte x 16)) 540 4 (Int32.ofNat (c + 1 + 1))) 543 (c + 2) (mf_byte x 8)) 540 4) + 1), .ref 540], aa_H (zz_w (zz_w (zz_w (zz_w (zz_w g 543 (c) (mf_byte x 24)) 540 4 (Int32.ofNat (c + 1))) 543 (c + 1) (mf_byte x 16)) 540 4 (Int32.ofNat (c + 1 + 1))) 543 (c + 2) (mf_byte x 8)))) rfl ?_
  rw [k2, aa_succ]
  refine zz_fin.steps (n := 1) (s' := (30, [some (.ref 540), some (.int x), some (.int 8)], [], aa_H (zz_w (zz_w (zz_w (zz_w (zz_w (zz_w g 543 (c) (mf_byte x 24)) 540 4 (Int32.ofNat (c + 1))) 543 (c + 1) (mf_byte x 16)) 540 4 (Int32.ofNat (c + 1 + 1))) 543 (c + 2) (mf_byte x 8)) 540 4 (Int32.ofNat (c + 2 + 1))))) rfl ?_
  have h3 : (zz_w (zz_w (zz_w (zz_w (zz_w (zz_w g 543 (c) (mf_byte x 24)) 540 4 (Int32.ofNat (c + 1))) 543 (c + 1) (mf_byte x 16)) 540 4 (Int32.ofNat (c + 1 + 1))) 543 (c + 2) (mf_byte x 8)) 540 4 (Int32.ofNat (c + 2 + 1))) 540 4 = Int32.ofNat (c + 3) := aa_w_at _ _ _ _
  refine zz_fin.steps (n := 2) (s' := (3, [some (.ref 540), some (.int x), some (.int (8 + (-8)))], [], aa_H (zz_w (zz_w (zz_w (zz_w (zz_w (zz_w g 543 (c) (mf_byte x 24)) 540 4 (Int32.ofNat (c + 1))) 543 (c + 1) (mf_byte x 16)) 540 4 (Int32.ofNat (c + 1 + 1))) 543 (c + 2) (mf_byte x 8)) 540 4 (Int32.ofNat (c + 2 + 1))))) rfl ?_
  refine zz_fin.steps (n := 0) (s' := (3, [some (.ref 540), some (.int x), some (.int 0)], [], aa_H (zz_w (zz_w (zz_w (zz_w (zz_w (zz_w g 543 (c) (mf_byte x 24)) 540 4 (Int32.ofNat (c + 1))) 543 (c + 1) (mf_byte x 16)) 540 4 (Int32.ofNat (c + 1 + 1))) 543 (c + 2) (mf_byte x 8)) 540 4 (Int32.ofNat (c + 2 + 1))))) rfl ?_
  refine zz_fin.steps (n := 1) (s' := (4, [some (.ref 540), some (.int x), some (.int 0)], [.int 0], aa_H (zz_w (zz_w (zz_w (zz_w (zz_w (zz_w g 543 (c) (mf_byte x 24)) 540 4 (Int32.ofNat (c + 1))) 543 (c + 1) (mf_byte x 16)) 540 4 (Int32.ofNat (c + 1 + 1))) 543 (c + 2) (mf_byte x 8)) 540 4 (Int32.ofNat (c + 2 + 1))))) rfl ?_
  refine zz_fin.if rfl (fun cz => absurd cz (by decide)) (fun cz => ?_)
  refine zz_fin.steps (n := 8) (s' := (19, [some (.ref 540), some (.int x), some (.int 0)], [.int ((x >>> ((0 : Int32) &&& 31)).toInt8.toInt32), .int ((zz_w (zz_w (zz_w (zz_w (zz_w (zz_w g 543 (c) (mf_byte x 24)) 540 4 (Int32.ofNat (c + 1))) 543 (c + 1) (mf_byte x 16)) 540 4 (Int32.ofNat (c + 1 + 1))) 543 (c + 2) (mf_byte x 8)) 540 4 (Int32.ofNat (c + 2 + 1))) 540 4), .ref 543], aa_H (zz_w (zz_w (zz_w (zz_w (zz_w (zz_w g 543 (c) (mf_byte x 24)) 540 4 (Int32.ofNat (c + 1))) 543 (c + 1) (mf_byte x 16)) 540 4 (Int32.ofNat (c + 1 + 1))) 543 (c + 2) (mf_byte x 8)) 540 4 (Int32.ofNat (c + 2 + 1))))) rfl ?_
  rw [h3]
  refine zz_fin.bas2 (n := 500) rfl rfl rfl (zz_inbN (by omega) (by omega)) ?_
  rw [zz_toN (by omega)]
  refine zz_fin.steps (n := 0) (s' := (20, [some (.ref 540), some (.int x), some (.int 0)], [], aa_H (zz_w (zz_w (zz_w (zz_w (zz_w (zz_w (zz_w g 543 (c) (mf_byte x 24)) 540 4 (Int32.ofNat (c + 1))) 543 (c + 1) (mf_byte x 16)) 540 4 (Int32.ofNat (c + 1 + 1))) 543 (c + 2) (mf_byte x 8)) 540 4 (Int32.ofNat (c + 2 + 1))) 543 (c + 3) (mf_byte x 0)))) rfl ?_
  have k3 : (zz_w (zz_w (zz_w (zz_w (zz_w (zz_w (zz_w g 543 (c) (mf_byte x 24)) 540 4 (Int32.ofNat (c + 1))) 543 (c + 1) (mf_byte x 16)) 540 4 (Int32.ofNat (c + 1 + 1))) 543 (c + 2) (mf_byte x 8)) 540 4 (Int32.ofNat (c + 2 + 1))) 543 (c + 3) (mf_byte x 0)) 540 4 = Int32.ofNat (c + 3) := (aa_w_ne _ _ (by omega)).trans h3
  refine zz_fin.steps (n := 5) (s' := (27, [some (.ref 540), some (.int x), some (.int 0)], [.int (((zz_w (zz_w (zz_w (zz_w (zz_w (zz_w (zz_w g 543 (c) (mf_byte x 24)) 540 4 (Int32.ofNat (c + 1))) 543 (c + 1) (mf_byte x 16)) 540 4 (Int32.ofNat (c + 1 + 1))) 543 (c + 2) (mf_byte x 8)) 540 4 (Int32.ofNat (c + 2 + 1))) 543 (c + 3) (mf_byte x 0)) 540 4) + 1), .ref 540], aa_H (zz_w (zz_w (zz_w (zz_w (zz_w (zz_w (zz_w g 543 (c) (mf_byte x 24)) 540 4 (Int32.ofNat (c + 1))) 543 (c + 1) (mf_byte x 16)) 540 4 (Int32.ofNat (c + 1 + 1))) 543 (c + 2) (mf_byte x 8)) 540 4 (Int32.ofNat (c + 2 + 1))) 543 (c + 3) (mf_byte x 0)))) rfl ?_
  rw [k3, aa_succ]
  refine zz_fin.steps (n := 1) (s' := (30, [some (.ref 540), some (.int x), some (.int 0)], [], aa_H (zz_w (zz_w (zz_w (zz_w (zz_w (zz_w (zz_w (zz_w g 543 (c) (mf_byte x 24)) 540 4 (Int32.ofNat (c + 1))) 543 (c + 1) (mf_byte x 16)) 540 4 (Int32.ofNat (c + 1 + 1))) 543 (c + 2) (mf_byte x 8)) 540 4 (Int32.ofNat (c + 2 + 1))) 543 (c + 3) (mf_byte x 0)) 540 4 (Int32.ofNat (c + 3 + 1))))) rfl ?_
  have h4 : (zz_w (zz_w (zz_w (zz_w (zz_w (zz_w (zz_w (zz_w g 543 (c) (mf_byte x 24)) 540 4 (Int32.ofNat (c + 1))) 543 (c + 1) (mf_byte x 16)) 540 4 (Int32.ofNat (c + 1 + 1))) 543 (c + 2) (mf_byte x 8)) 540 4 (Int32.ofNat (c + 2 + 1))) 543 (c + 3) (mf_byte x 0)) 540 4 (Int32.ofNat (c + 3 + 1))) 540 4 = Int32.ofNat (c + 4) := aa_w_at _ _ _ _
  refine zz_fin.steps (n := 2) (s' := (3, [some (.ref 540), some (.int x), some (.int (0 + (-8)))], [], aa_H (zz_w (zz_w (zz_w (zz_w (zz_w (zz_w (zz_w (zz_w g 543 (c) (mf_byte x 24)) 540 4 (Int32.ofNat (c + 1))) 543 (c + 1) (mf_byte x 16)) 540 4 (Int32.ofNat (c + 1 + 1))) 543 (c + 2) (mf_byte x 8)) 540 4 (Int32.ofNat (c + 2 + 1))) 543 (c + 3) (mf_byte x 0)) 540 4 (Int32.ofNat (c + 3 + 1))))) rfl ?_
  refine zz_fin.steps (n := 0) (s' := (3, [some (.ref 540), some (.int x), some (.int (-8))], [], aa_H (zz_w (zz_w (zz_w (zz_w (zz_w (zz_w (zz_w (zz_w g 543 (c) (mf_byte x 24)) 540 4 (Int32.ofNat (c + 1))) 543 (c + 1) (mf_byte x 16)) 540 4 (Int32.ofNat (c + 1 + 1))) 543 (c + 2) (mf_byte x 8)) 540 4 (Int32.ofNat (c + 2 + 1))) 543 (c + 3) (mf_byte x 0)) 540 4 (Int32.ofNat (c + 3 + 1))))) rfl ?_
  refine zz_fin.steps (n := 1) (s' := (4, [some (.ref 540), some (.int x), some (.int (-8))], [.int (-8)], aa_H (zz_w (zz_w (zz_w (zz_w (zz_w (zz_w (zz_w (zz_w g 543 (c) (mf_byte x 24)) 540 4 (Int32.ofNat (c + 1))) 543 (c + 1) (mf_byte x 16)) 540 4 (Int32.ofNat (c + 1 + 1))) 543 (c + 2) (mf_byte x 8)) 540 4 (Int32.ofNat (c + 2 + 1))) 543 (c + 3) (mf_byte x 0)) 540 4 (Int32.ofNat (c + 3 + 1))))) rfl ?_
  refine zz_fin.if rfl (fun cz => ?_) (fun cz => absurd (by decide) cz)
  refine zz_fin.at (n := 1) rfl ⟨rfl, _, rfl, aa_w_at _ _ _ _, fun i hi => ?_, fun a b e1 e2 => ?_⟩
  · have h4 : i = 0 ∨ i = 1 ∨ i = 2 ∨ i = 3 := by omega
    rcases h4 with rfl | rfl | rfl | rfl
    · rw [aa_w_ne _ _ (by omega), aa_w_ne _ _ (by omega), aa_w_ne _ _ (by omega), aa_w_ne _ _ (by omega), aa_w_ne _ _ (by omega), aa_w_ne _ _ (by omega), aa_w_ne _ _ (by omega)]
      exact aa_w_at _ _ _ _
    · rw [aa_w_ne _ _ (by omega), aa_w_ne _ _ (by omega), aa_w_ne _ _ (by omega), aa_w_ne _ _ (by omega), aa_w_ne _ _ (by omega)]
      exact aa_w_at _ _ _ _
    · rw [aa_w_ne _ _ (by omega), aa_w_ne _ _ (by omega), aa_w_ne _ _ (by omega)]
      exact aa_w_at _ _ _ _
    · rw [aa_w_ne _ _ (by omega)]
      exact aa_w_at _ _ _ _
  · rw [aa_w_ne _ _ (by omega), aa_w_ne _ _ (by omega), aa_w_ne _ _ (by omega), aa_w_ne _ _ (by omega), aa_w_ne _ _ (by omega), aa_w_ne _ _ (by omega), aa_w_ne _ _ (by omega), aa_w_ne _ _ (by omega)]
theorem fd_feedc {g : aa_G} {c : Nat} {a0 a1 a2 a3 a4 : Int32} (hc : c ≤ 500) (h0 : g 454 0 = Int32.ofNat c) : zz_fin none 11 (0, zz_in [.ref 1, .int a0, .int a1, .int a2, .int a3, .int a4] (zz_nl 11), [], aa_H g) (fun _ h => ∃ g', h = aa_H g' ∧ ((500 < c + 20 ∧ g' = g) ∨ (c + 20 ≤ 500 ∧ fd_st cf_byte 455 454 0 g g' c 5 (fd_args a0 a1 a2 a3 a4)))) := by
  refine zz_fin.steps (n := 6) (s' := (13, [some (.ref 1), some (.int a0), some (.int a1), some (.int a2), some (.int a3), some (.int a4)], [.int 500, .int ((g 454 0) + 20)], aa_H g)) rfl ?_
  rw [h0, show Int32.ofNat c + 20 = Int32.ofNat (c + 20) from (Int32.ofNat_add c 20).symm]
  refine zz_fin.ic rfl (fun c1 => ?_) (fun c1 => ?_)
  · have c1 : (Int32.ofNat (c + 20)).toInt ≤ (500 : Int32).toInt := aa_le32.mp (of_decide_eq_true c1)
    rw [zz_ofN (by omega), show (500 : Int32).toInt = 500 from rfl] at c1
    have s0 : fd_st cf_byte 455 454 0 g g c 0 (fd_args a0 a1 a2 a3 a4) := fd_st.nil h0
    refine zz_fin.steps (n := 3) (s' := (23, [some (.ref 1), some (.int a0), some (.int a1), some (.int a2), some (.int a3), some (.int a4)], [.int a0, .ref 454], aa_H g)) rfl ?_
    refine zz_fin.call rfl rfl (Nat.le_of_ble_eq_true rfl) (fd_appc (c := c + 4 * 0) (by omega) s0.1) ?_
    rintro v h ⟨rfl, g1, rfl, p1⟩
    have s1 := s0.tr (by decide) p1
    refine zz_fin.steps (n := 3) (s' := (31, [some (.ref 1), some (.int a0), some (.int a1), some (.int a2), some (.int a3), some (.int a4)], [.int a1, .ref 454], aa_H g1)) rfl ?_
    refine zz_fin.call rfl rfl (Nat.le_of_ble_eq_true rfl) (fd_appc (c := c + 4 * 1) (by omega) s1.1) ?_
    rintro v h ⟨rfl, g2, rfl, p2⟩
    have s2 := s1.tr (by decide) p2
    refine zz_fin.steps (n := 3) (s' := (39, [some (.ref 1), some (.int a0), some (.int a1), some (.int a2), some (.int a3), some (.int a4)], [.int a2, .ref 454], aa_H g2)) rfl ?_
    refine zz_fin.call rfl rfl (Nat.le_of_ble_eq_true rfl) (fd_appc (c := c + 4 * 2) (by omega) s2.1) ?_
    rintro v h ⟨rfl, g3, rfl, p3⟩
    have s3 := s2.tr (by decide) p3
    refine zz_fin.steps (n := 3) (s' := (48, [some (.ref 1), some (.int a0), some (.int a1), some (.int a2), some (.int a3), some (.int a4)], [.int a3, .ref 454], aa_H g3)) rfl ?_
    refine zz_fin.call rfl rfl (Nat.le_of_ble_eq_true rfl) (fd_appc (c := c + 4 * 3) (by omega) s3.1) ?_
    rintro v h ⟨rfl, g4, rfl, p4⟩
    have s4 := s3.tr (by decide) p4
    refine zz_fin.steps (n := 3) (s' := (57, [some (.ref 1), some (.int a0), some (.int a1), some (.int a2), some (.int a3), some (.int a4)], [.int a4, .ref 454], aa_H g4)) rfl ?_
    refine zz_fin.call rfl rfl (Nat.le_of_ble_eq_true rfl) (fd_appc (c := c + 4 * 4) (by omega) s4.1) ?_
    rintro v h ⟨rfl, g5, rfl, p5⟩
    have s5 := s4.tr (by decide) p5
    refine zz_fin.steps (n := 3) (s' := (67, [some (.ref 1), some (.int a0), some (.int a1), some (.int a2), some (.int a3), some (.int a4)], [.int (g5 454 0)], aa_H g5)) rfl ?_
    exact zz_fin.at (n := 1) rfl ⟨g5, rfl, .inr ⟨by omega, s5⟩⟩
  · have c1 : ¬ (Int32.ofNat (c + 20)).toInt ≤ (500 : Int32).toInt := fun z => c1 (decide_eq_true (aa_le32.mpr z))
    rw [zz_ofN (by omega), show (500 : Int32).toInt = 500 from rfl] at c1
    refine zz_fin.steps (n := 1) (s' := (17, [some (.ref 1), some (.int a0), some (.int a1), some (.int a2), some (.int a3), some (.int a4)], [.int (-1)], aa_H g)) rfl ?_
    exact zz_fin.at (n := 1) rfl ⟨g, rfl, .inl ⟨by omega, rfl⟩⟩
theorem fd_feedm {g : aa_G} {c : Nat} {a0 a1 a2 a3 a4 : Int32} (hc : c ≤ 500) (h0 : g 540 4 = Int32.ofNat c) : zz_fin none 158 (0, zz_in [.ref 540, .int a0, .int a1, .int a2, .int a3, .int a4] (zz_nl 158), [], aa_H g) (fun _ h => ∃ g', h = aa_H g' ∧ ((500 < c + 20 ∧ g' = g) ∨ (c + 20 ≤ 500 ∧ fd_st mf_byte 543 540 4 g g' c 5 (fd_args a0 a1 a2 a3 a4)))) := by
  refine zz_fin.steps (n := 5) (s' := (10, [some (.ref 540), some (.int a0), some (.int a1), some (.int a2), some (.int a3), some (.int a4)], [.int 500, .int ((g 540 4) + 20)], aa_H g)) rfl ?_
  rw [h0, show Int32.ofNat c + 20 = Int32.ofNat (c + 20) from (Int32.ofNat_add c 20).symm]
  refine zz_fin.ic rfl (fun c1 => ?_) (fun c1 => ?_)
  · have c1 : (Int32.ofNat (c + 20)).toInt ≤ (500 : Int32).toInt := aa_le32.mp (of_decide_eq_true c1)
    rw [zz_ofN (by omega), show (500 : Int32).toInt = 500 from rfl] at c1
    have s0 : fd_st mf_byte 543 540 4 g g c 0 (fd_args a0 a1 a2 a3 a4) := fd_st.nil h0
    refine zz_fin.steps (n := 2) (s' := (17, [some (.ref 540), some (.int a0), some (.int a1), some (.int a2), some (.int a3), some (.int a4)], [.int a0, .ref 540], aa_H g)) rfl ?_
    refine zz_fin.call rfl rfl (Nat.le_of_ble_eq_true rfl) (fd_appm (c := c + 4 * 0) (by omega) s0.1) ?_
    rintro v h ⟨rfl, g1, rfl, p1⟩
    have s1 := s0.tr (by decide) p1
    refine zz_fin.steps (n := 2) (s' := (22, [some (.ref 540), some (.int a0), some (.int a1), some (.int a2), some (.int a3), some (.int a4)], [.int a1, .ref 540], aa_H g1)) rfl ?_
    refine zz_fin.call rfl rfl (Nat.le_of_ble_eq_true rfl) (fd_appm (c := c + 4 * 1) (by omega) s1.1) ?_
    rintro v h ⟨rfl, g2, rfl, p2⟩
    have s2 := s1.tr (by decide) p2
    refine zz_fin.steps (n := 2) (s' := (27, [some (.ref 540), some (.int a0), some (.int a1), some (.int a2), some (.int a3), some (.int a4)], [.int a2, .ref 540], aa_H g2)) rfl ?_
    refine zz_fin.call rfl rfl (Nat.le_of_ble_eq_true rfl) (fd_appm (c := c + 4 * 2) (by omega) s2.1) ?_
    rintro v h ⟨rfl, g3, rfl, p3⟩
    have s3 := s2.tr (by decide) p3
    refine zz_fin.steps (n := 2) (s' := (33, [some (.ref 540), some (.int a0), some (.int a1), some (.int a2), some (.int a3), some (.int a4)], [.int a3, .ref 540], aa_H g3)) rfl ?_
    refine zz_fin.call rfl rfl (Nat.le_of_ble_eq_true rfl) (fd_appm (c := c + 4 * 3) (by omega) s3.1) ?_
    rintro v h ⟨rfl, g4, rfl, p4⟩
    have s4 := s3.tr (by decide) p4
    refine zz_fin.steps (n := 2) (s' := (39, [some (.ref 540), some (.int a0), some (.int a1), some (.int a2), some (.int a3), some (.int a4)], [.int a4, .ref 540], aa_H g4)) rfl ?_
    refine zz_fin.call rfl rfl (Nat.le_of_ble_eq_true rfl) (fd_appm (c := c + 4 * 4) (by omega) s4.1) ?_
    rintro v h ⟨rfl, g5, rfl, p5⟩
    have s5 := s4.tr (by decide) p5
    refine zz_fin.steps (n := 2) (s' := (46, [some (.ref 540), some (.int a0), some (.int a1), some (.int a2), some (.int a3), some (.int a4)], [.int (g5 540 4)], aa_H g5)) rfl ?_
    exact zz_fin.at (n := 1) rfl ⟨g5, rfl, .inr ⟨by omega, s5⟩⟩
  · have c1 : ¬ (Int32.ofNat (c + 20)).toInt ≤ (500 : Int32).toInt := fun z => c1 (decide_eq_true (aa_le32.mpr z))
    rw [zz_ofN (by omega), show (500 : Int32).toInt = 500 from rfl] at c1
    refine zz_fin.steps (n := 1) (s' := (14, [some (.ref 540), some (.int a0), some (.int a1), some (.int a2), some (.int a3), some (.int a4)], [.int (-1)], aa_H g)) rfl ?_
    exact zz_fin.at (n := 1) rfl ⟨g, rfl, .inl ⟨by omega, rfl⟩⟩
/-- the bytes of both tapes are alike -/
def fd_R (g : aa_G) : Prop := ∀ k, k < 500 → g 543 k &&& 255 = g 455 k
theorem fd_R.of {g g' : aa_G} (h : fd_R g) (h1 : ∀ k, k < 500 → g' 543 k = g 543 k) (h2 : ∀ k, k < 500 → g' 455 k = g 455 k) : fd_R g' := fun k hk => by rw [h1 k hk, h2 k hk]; exact h k hk
theorem fd_R.feed {g g1 g2 : aa_G} {c : Nat} {as : Nat → Int32} (h : fd_R g) (h1 : fd_st cf_byte 455 454 0 g g1 c 5 as) (h2 : fd_st mf_byte 543 540 4 g1 g2 c 5 as) : fd_R g2 := fun k hk => by
  by_cases hin : c ≤ k ∧ k < c + 20
  · have e1 := h2.2.1 (k - c) (by omega)
    have e2 := h1.2.1 (k - c) (by omega)
    rw [show c + (k - c) = k by omega] at e1 e2
    rw [e1, h2.2.2 455 k (by omega) (by omega), e2]
    exact fd_byte _ (by omega)
  · rw [h2.2.2 543 k (by omega) (by omega), h2.2.2 455 k (by omega) (by omega), h1.2.2 543 k (by omega) (by omega), h1.2.2 455 k (by omega) (by omega)]
    exact h k hk
end
section
/-! THE LAW'S WALK, with any end -/
section AY
variable {Φ : aa_G → Prop} {fr : aa_W} {hk : aa_Hk} {Ks : List aa_K} {K : aa_K} {ν0 : List Int} {g0 : aa_G} {L : Nat} {xs : Nat → Int32} {sp : Nat → Bool} {φ : Option Value → zz_H → Prop}
/-- at this place of a loop, with so much left: an end is come to -/
def aa_hereY (Φ : aa_G → Prop) (L : Nat) (xs : Nat → Int32) (K : aa_K) (ν0 : List Int) (g0 : aa_G) (φ : Option Value → zz_H → Prop) (c : Nat × (aa_T × aa_Wh) × aa_F) (y : Int) : Prop := ∀ (τ : List Int) (g : aa_G) (lv : zz_V), aa_vb c.2.1.1.1.1 τ → aa_vc c.2.1.1.1.2 τ → aa_vh c.2.1.1.2.1 τ g → aa_ml τ c.2.1.1.2.2 lv → aa_at Φ K ν0 g0 τ g → aa_ev τ c.2.2 = some y → zz_fin (some (L, xs)) K.1.1 (c.1, lv, [], aa_H g) φ
theorem aa_arvY_ok (hν0 : ν0.length = K.1.2.1) {cur : Option aa_F} {s : aa_S} {c : Nat × (aa_T × aa_Wh) × aa_F} {ν : List Int} {g : aa_G} {lv : zz_V} {st : List Value} {b : Int} (h : aa_ok s ν g lv st) (ha : aa_at Φ K ν0 g0 ν g) (hb : ∀ f, cur = some f → aa_ev ν f = some b) (hc : ∀ y, 0 ≤ y → (∀ f, cur = some f → y < b) → aa_hereY Φ L xs K ν0 g0 φ c y) (e : aa_arv K cur s c = true) : zz_fin (some (L, xs)) K.1.1 (c.1, lv, [], aa_H g) φ := by
  unfold aa_arv at e
  dsimp only at e
  generalize hσ : aa_fnd s s.2.2.1 c.2.1.1 c.2.1.2 (aa_ids 0 K.1.2.1) = σ at e
  simp only [Bool.and_eq_true] at e
  obtain ⟨e1, e2, e3⟩ := e
  obtain ⟨τ, t1, t2, t3, t4, t5⟩ := aa_mt_ok h.1 h.2.1 h.2.2.1 e1
  obtain ⟨⟨ρ0, rfl⟩, a1, a2, a3⟩ := ha
  rw [← hν0] at e2
  obtain ⟨ρ, rfl⟩ := aa_pfx_ok e2 t1
  split at e3
  · cases e3
  · rename_i μ hμ
    rw [Bool.and_eq_true, decide_eq_true_eq] at e3
    obtain ⟨y, y1, y2⟩ := aa_sub_ok t1 hμ
    have b1 := aa_lo_ok h.1 h.2.1 y2
    refine hc y (by omega) ?_ _ g lv t2 t3 t4 (aa_mav_ml t1 t5 h.2.2.2.1) ⟨⟨ρ, rfl⟩, a1, a2, a3⟩ y1
    rintro f rfl
    have b2 := aa_lo_ok h.1 h.2.1 (aa_add_ev (k := -1) (hb f rfl) y2)
    have b3 := of_decide_eq_true e3.2
    omega
theorem aa_exY_ok (hφq : ∀ v h, aa_post Φ K ν0 g0 v h → φ v h) (hL : L < 2147483648) (hLν : ν0[0]? = some (L : Int)) (hx0 : ∀ j, j < L → g0 546 (10000 + j) = xs j) (hws : ∀ w ∈ K.1.2.2, w.1 = 41 → w.2.2 < 10000) (hG : aa_good Φ fr hk) (hKs : ∀ K ∈ Ks, aa_met Φ K) (hν0 : ν0.length = K.1.2.1) {b : Int} : ∀ (n : Nat) (mv : Bool) (cur : Option aa_F) (pc : Nat) (s : aa_S) (ν : List Int) (g : aa_G) (lv : zz_V) (st : List Value), aa_exX Ks K fr hk sp n mv cur pc s = true → aa_ok s ν g lv st → aa_at Φ K ν0 g0 ν g → (∀ f, cur = some f → aa_ev ν f = some b) → (∀ c ∈ K.2.2.2, ∀ y, 0 ≤ y → (∀ f, cur = some f → y < b) → aa_hereY Φ L xs K ν0 g0 φ c y) → zz_fin (some (L, xs)) K.1.1 (pc, lv, st, aa_H g) φ
  | 0, _, _, _, _, _, _, _, _, h, _, _, _, _ => by cases h
  | n + 1, mv, cur, pc, s, ν, g, lv, st, e, h, ha, hb, hc => by
    rw [aa_exX] at e
    split at e
    · rename_i c r hcut
      have hmem : ∀ c' ∈ c :: r, c' ∈ K.2.2.2 ∧ c'.1 = pc := fun c' hc' => by
        rw [← hcut] at hc'
        cases mv with
        | false => cases hc'
        | true =>
          obtain ⟨k1, k2⟩ := List.mem_filter.mp hc'
          exact ⟨k1, Nat.eq_of_beq_eq_true k2⟩
      split at e
      · rename_i hst
        obtain ⟨c', hc', e1⟩ := List.any_eq_true.mp e
        obtain ⟨m1, m2⟩ := hmem c' hc'
        have hm := h.2.2.2.2
        rw [hst] at hm
        cases st with
        | cons v q => exact hm.elim
        | nil =>
          rw [← m2]
          exact aa_arvY_ok hν0 h ha hb (hc c' m1) e1
      · cases e
    · split at e
      · cases e
      · rename_i i hT
        split at e
        · rename_i bb hrt
          subst e
          have hm := h.2.2.2.2
          obtain ⟨i, ⟨x, y, u, w⟩, v, sw⟩ := i
          unfold aa_rt at hrt
          dsimp only at hrt
          split at hrt
          · have hrt := Option.some.inj hrt
            split at hrt
            · rename_i f hst
              rw [hst] at hm
              obtain ⟨a, q, rfl, h1, h2⟩ := aa_ms_int hm
              cases q with
              | cons _ _ => exact h2.elim
              | nil =>
                split at hrt
                · rename_i hr
                  have hr := Nat.eq_of_beq_eq_true hr
                  refine zz_fin.ret (v := some (.int a)) (q := pc) hT ?_ (hφq _ _ (aa_exit_ok (avs := [(1, f)]) hν0 h ha ⟨Nat.one_ne_zero, a, rfl, h1⟩ hrt))
                  show (if zz_rt K.1.1 = 1 ∨ (zz_rt K.1.1 = 2 ∧ (a = 0 ∨ a = 1)) then _ else none) = _
                  rw [if_pos (.inl hr)]
                · simp only [Bool.and_eq_true, decide_eq_true_eq] at hrt
                  obtain ⟨r1, r2, r3, r4, r5⟩ := hrt
                  have hr := Nat.eq_of_beq_eq_true r1
                  have b1 := aa_lo_ok h.1 h.2.1 h1
                  have b2 := aa_hi_ok h.1 h.2.1 h1
                  have key : ∀ z : Int32, a = z → aa_exz K s f z.toInt = true → φ (some (.int a)) (aa_H g) := fun z hz hx => by
                    subst hz
                    unfold aa_exz at hx
                    obtain ⟨s', e3, h3⟩ := aa_as2_ok h (f := aa_plus f (-a.toInt)) (by rw [aa_plus_ev h1, Int.add_right_neg])
                    rw [e3] at hx
                    exact hφq _ _ (aa_exit_ok (avs := [(1, aa_c a.toInt)]) hν0 h3 ha ⟨Nat.one_ne_zero, a, rfl, aa_c_ev⟩ hx)
                  have h01 : a = 0 ∨ a = 1 := by
                    rcases (show a.toInt = 0 ∨ a.toInt = 1 by omega) with z | z
                    · exact .inl (Int32.toInt_inj.mp z)
                    · exact .inr (Int32.toInt_inj.mp z)
                  refine zz_fin.ret (v := some (.int a)) (q := pc) (h' := aa_H g) hT ?_ ?_
                  · show (if zz_rt K.1.1 = 1 ∨ (zz_rt K.1.1 = 2 ∧ (a = 0 ∨ a = 1)) then _ else none) = _
                    rw [if_pos (.inr ⟨hr, h01⟩)]
                  · rcases h01 with z | z
                    · exact key 0 z r4
                    · exact key 1 z r5
            · cases hrt
          · have hrt := Option.some.inj hrt
            split at hrt
            · rename_i f hst
              rw [Bool.and_eq_true] at hrt
              have hr := Nat.eq_of_beq_eq_true hrt.1
              rw [hst] at hm
              obtain ⟨a, q, rfl, h1, h2⟩ := aa_ms_ref hm
              cases q with
              | cons _ _ => exact h2.elim
              | nil =>
                refine zz_fin.ret (v := some (.ref a)) (q := pc) hT ?_ (hφq _ _ (aa_exit_ok (avs := [(3, f)]) hν0 h ha ⟨Nat.succ_ne_zero _, a, rfl, h1⟩ hrt.2))
                show (if zz_rt K.1.1 = 3 then _ else none) = _
                rw [if_pos hr]
            · rename_i f hst
              rw [Bool.and_eq_true] at hrt
              have hr := Nat.eq_of_beq_eq_true hrt.1
              rw [hst] at hm
              obtain ⟨q, rfl, h2⟩ := aa_ms_null hm
              cases q with
              | cons _ _ => exact h2.elim
              | nil =>
                refine zz_fin.ret (v := some .null) (q := pc) hT ?_ (hφq _ _ (aa_exit_ok (avs := [(4, f)]) hν0 h ha ⟨Nat.succ_ne_zero _, rfl⟩ hrt.2))
                show (if zz_rt K.1.1 = 3 then _ else none) = _
                rw [if_pos hr]
            · cases hrt
          · have hrt := Option.some.inj hrt
            split at hrt
            · rename_i hst
              rw [Bool.and_eq_true] at hrt
              have hr := Nat.eq_of_beq_eq_true hrt.1
              rw [hst] at hm
              cases st with
              | cons _ _ => exact hm.elim
              | nil =>
                refine zz_fin.ret (v := none) (q := pc) hT ?_ (hφq _ _ (aa_exit_ok (avs := []) hν0 h ha trivial hrt.2))
                show (if zz_rt K.1.1 = 0 then _ else none) = _
                rw [if_pos hr]
            · cases hrt
          · cases hrt
        · split at e
          · cases e
          · rename_i l hl
            have hν1 : ν[0]? = some (L : Int) := by
              obtain ⟨⟨ρ0, rfl⟩, -⟩ := ha
              rw [List.getElem?_append_left (List.getElem?_eq_some_iff.mp hLν).1]
              exact hLν
            have hx1 : ∀ j, j < L → g 546 (10000 + j) = xs j := fun j hj => by
              rcases ha.2.2.2.1 546 (10000 + j) with e | ⟨w, hw, w1, w2, w3⟩
              · exact e.trans (hx0 j hj)
              · have := hws w hw w1
                omega
            refine aa_nxX_ok hL hG hKs hT hν1 hx1 h ha.2.1 ha.2.2.1 hl _ fun pc' s' ρ g' lv' st' h1 h2 h3 h4 h5 => ?_
            have e1 := List.all_eq_true.mp e _ h1
            obtain ⟨⟨ρ0, rfl⟩, a1, a2, a3⟩ := ha
            exact aa_exY_ok hφq hL hLν hx0 hws hG hKs hν0 n true cur pc' s' _ g' lv' st' e1 h2 ⟨⟨ρ0 ++ ρ, by rw [List.append_assoc]⟩, h3, h4, a3.tr h5⟩ (fun f hf => aa_ev_app (hb f hf)) hc
end AY
end
section
/-! RUNS READ BACKWARDS: what a run that comes to an end has done -/
def rn_s (n m : Nat) (s : zz_S) (v : Option Value) (h : zz_H) : Prop := ∃ q, zz_walk zz_Q zz_us none n m s = some (.inr (q, v, h))
/-- a local that nobody reads any more (no long) -/
def rn_jk (x : Option Value) : Prop := ∀ v, x = some v → v.category ≠ 2
theorem rn_jn : rn_jk none := fun v h => by cases h
theorem rn_ji {a : Int32} : rn_jk (some (.int a)) := fun v h => by cases h; exact (by decide : (1 : Nat) ≠ 2)
theorem rn_jr {a : Nat} : rn_jk (some (.ref a)) := fun v h => by cases h; exact (by decide : (1 : Nat) ≠ 2)
theorem rn_jl : rn_jk (some .null) := fun v h => by cases h; exact (by decide : (1 : Nat) ≠ 2)
section RN
variable {m m2 pc n q k : Nat} {s s' : zz_S} {lv : zz_V} {st as rest : List Value} {h h' h0 : zz_H} {g : aa_G} {e : zz_I} {v v' : Option Value} {φ ψ : Option Value → zz_H → Prop}
theorem rn_more (k : Nat) (w : zz_walk zz_Q zz_us none n m s = some (.inr (q, v, h))) : zz_walk zz_Q zz_us none (n + k) m s = some (.inr (q, v, h)) := by
  rw [zz_walk_add n m s _ w k]
  rfl
theorem rn_det {n' : Nat} (r : rn_s n m s v h) (r' : rn_s n' m s v' h') : v = v' ∧ h = h' := by
  obtain ⟨q, w⟩ := r
  obtain ⟨q', w'⟩ := r'
  have e1 := rn_more n' w
  have e2 := rn_more n w'
  rw [Nat.add_comm n' n, e1] at e2
  have e3 := Option.some.inj e2
  have e4 := Sum.inr.inj e3
  exact ⟨congrArg (fun x => x.2.1) e4, congrArg (fun x => x.2.2) e4⟩
theorem rn_fin (f : zz_fin none m s φ) (r : rn_s n m s v h) : φ v h := by
  obtain ⟨n', q, v', h', w, p⟩ := f
  obtain ⟨e1, e2⟩ := rn_det r ⟨q, w⟩
  rw [e1, e2]
  exact p
theorem rn_also (f : zz_fin none m s φ) (k : ∀ n v h, rn_s n m s v h → φ v h → ψ v h) : zz_fin none m s ψ := by
  obtain ⟨n', q, v', h', w, p⟩ := f
  exact ⟨n', q, v', h', w, k n' v' h' ⟨q, w⟩ p⟩
theorem rn_of (f : zz_fin none m s φ) : ∃ n v h, rn_s n m s v h ∧ φ v h := by
  obtain ⟨n', q, v', h', w, p⟩ := f
  exact ⟨n', v', h', ⟨q, w⟩, p⟩
theorem rn_steps (k : Nat) (s' : zz_S) (w : zz_walk zz_Q zz_us none (k + 1) m s = some (.inl s')) (r : rn_s n m s v h) : ∃ n', n' < n ∧ rn_s n' m s' v h := by
  obtain ⟨q, r⟩ := r
  by_cases hk : k + 1 ≤ n
  · refine ⟨n - (k + 1), by omega, q, ?_⟩
    have e := zz_walk_add (k + 1) m s _ w (n - (k + 1))
    rw [show k + 1 + (n - (k + 1)) = n by omega, r] at e
    exact e.symm
  · have e := rn_more (k + 1 - n) r
    rw [show n + (k + 1 - n) = k + 1 by omega, w] at e
    cases e
theorem rn_ret (k : Nat) (w : zz_walk zz_Q zz_us none k m s = some (.inr (q, v', h'))) (r : rn_s n m s v h) : v = v' ∧ h = h' := rn_det r ⟨q, w⟩
theorem rn_one (hT : zz_T m pc = some e) (hs : zz_step none zz_us (zz_rt m) e pc lv st h0 = some (.inl s')) (r : rn_s n m (pc, lv, st, h0) v h) : ∃ n', n' < n ∧ rn_s n' m s' v h := by
  refine rn_steps 0 s' ?_ r
  rw [zz_walk]
  rw [show zz_Q.1 m pc = some e from hT]
  dsimp only
  rw [show zz_step none zz_us (zz_Q.2.1 m) e pc lv st h0 = some (.inl s') from hs]
  rfl
theorem rn_no (hT : zz_T m pc = some e) (hs : zz_step none zz_us (zz_rt m) e pc lv st h0 = none) (r : rn_s n m (pc, lv, st, h0) v h) : False := by
  obtain ⟨q, r⟩ := r
  cases n with
  | zero => cases r
  | succ n =>
    rw [zz_walk] at r
    rw [show zz_Q.1 m pc = some e from hT] at r
    dsimp only at r
    rw [show zz_step none zz_us (zz_Q.2.1 m) e pc lv st h0 = none from hs] at r
    cases r
theorem rn_call (hT : zz_T m pc = some e) (hs : zz_step none zz_us (zz_rt m) e pc lv st h0 = some (.inr (.inr (m2, as, rest)))) (r : rn_s n m (pc, lv, st, h0) v h) : ∃ n1 n2 v1 h1, n1 < n ∧ n2 < n ∧ rn_s n1 m2 (0, zz_in as (zz_nl m2), [], h0) v1 h1 ∧ rn_s n2 m (pc + 3, lv, v1.toList ++ rest, h1) v h := by
  obtain ⟨q, r⟩ := r
  cases n with
  | zero => cases r
  | succ n =>
    rw [zz_walk] at r
    rw [show zz_Q.1 m pc = some e from hT] at r
    dsimp only at r
    rw [show zz_step none zz_us (zz_Q.2.1 m) e pc lv st h0 = some (.inr (.inr (m2, as, rest))) from hs] at r
    dsimp only at r
    split at r
    · cases hw : zz_walk zz_Q zz_us none n m2 (0, zz_in as (zz_Q.2.2 m2), [], h0) with
      | none => rw [hw] at r; cases r
      | some o =>
        rw [hw] at r
        cases o with
        | inl _ => cases r
        | inr o =>
          obtain ⟨q1, v1, h1⟩ := o
          exact ⟨n, n, v1, h1, Nat.lt_succ_self n, Nat.lt_succ_self n, ⟨q1, hw⟩, ⟨q, r⟩⟩
    · cases r
/-- a call of a method of an object -/
theorem rn_cv {i a ci w : Nat} {vv : Value} {sw : List (Int × Nat)} {fs : List (Option (Option Nat))} (hT : zz_T m pc = some (.invokevirtual i, (m2, a, ci, w), vv, sw)) (hk : k ≠ 0 ∧ k ≤ 553) (hl : zz_ly k = .inr (.inr (ci, fs))) (hst : st = as.reverse ++ .ref k :: rest) (hn : as.length = a) (r : rn_s n m (pc, lv, st, aa_H g) v h) : ∃ n1 n2 v1 h1, n1 < n ∧ n2 < n ∧ rn_s n1 m2 (0, zz_in (.ref k :: as) (zz_nl m2), [], aa_H g) v1 h1 ∧ rn_s n2 m (pc + 3, lv, v1.toList ++ rest, h1) v h := by
  subst hst
  have hl2 : as.reverse.length = a := by rw [List.length_reverse, hn]
  have hd : (as.reverse ++ Value.ref k :: rest).drop a = .ref k :: rest := by rw [← hl2, List.drop_left]
  have ht : (as.reverse ++ Value.ref k :: rest).take a = as.reverse := by rw [← hl2, List.take_left]
  have hob : (zz_obj (aa_H g) k ci).isSome = true := by
    have e : zz_lay (aa_H g) k = some (zz_ly k) := if_pos hk.2
    unfold zz_obj
    rw [e, hl]
    dsimp only
    rw [if_pos rfl]
    rfl
  obtain ⟨k, rfl⟩ := Nat.exists_eq_succ_of_ne_zero hk.1
  have hstep : zz_cv m2 a ci (as.reverse ++ .ref (k + 1) :: rest) (aa_H g) = zz_call m2 (.ref (k + 1) :: as) rest := by
    unfold zz_cv
    rw [hd]
    dsimp only
    rw [if_pos ⟨by rw [List.length_append]; omega, hob⟩, ht, List.reverse_reverse]
  by_cases h8 : (rest.map fun v => v.category).sum ≤ 8
  · refine rn_call hT ?_ r
    show zz_cv m2 a ci (as.reverse ++ .ref (k + 1) :: rest) (aa_H g) = _
    rw [hstep]
    unfold zz_call
    rw [if_pos h8]
  · refine absurd (rn_no hT ?_ r) (fun z => z)
    show zz_cv m2 a ci (as.reverse ++ .ref (k + 1) :: rest) (aa_H g) = _
    rw [hstep]
    unfold zz_call
    rw [if_neg h8]
theorem rn_ic {α : Type} (P : α → Prop) {c : Prop} {ic : Decidable c} {E1 E2 : α} {cn : Jvm.ClassFile.Cond} {off : Int} {x y u w : Nat} {vv : Value} {sw : List (Int × Nat)} {a d : Int32} (hT : zz_T m pc = some (.if_icmp cn off, (x, y, u, w), vv, sw)) (hc : c ↔ zz_cmp cn a d = true) (r : rn_s n m (pc, lv, .int d :: .int a :: st, h0) v h)
    (k1 : c → ∀ n', n' < n → rn_s n' m (x, lv, st, h0) v h → P E1) (k2 : ¬ c → ∀ n', n' < n → rn_s n' m (pc + 3, lv, st, h0) v h → P E2) : P (@ite α c ic E1 E2) := by
  by_cases hz : zz_cmp cn a d = true
  · rw [if_pos (hc.mpr hz)]
    obtain ⟨n1, l1, r1⟩ := rn_one (s' := (x, lv, st, h0)) hT (by simp only [zz_step, zz_ic]; rw [if_pos hz]; rfl) r
    exact k1 (hc.mpr hz) n1 l1 r1
  · have hcn : ¬ c := fun z => hz (hc.mp z)
    rw [if_neg hcn]
    obtain ⟨n1, l1, r1⟩ := rn_one (s' := (pc + 3, lv, st, h0)) hT (by simp only [zz_step, zz_ic]; rw [if_neg hz]; rfl) r
    exact k2 hcn n1 l1 r1
theorem rn_if {α : Type} (P : α → Prop) {c : Prop} {ic : Decidable c} {E1 E2 : α} {cn : Jvm.ClassFile.Cond} {off : Int} {x y u w : Nat} {vv : Value} {sw : List (Int × Nat)} {a : Int32} (hT : zz_T m pc = some (.ifCond cn off, (x, y, u, w), vv, sw)) (hc : c ↔ zz_cond cn a = true) (r : rn_s n m (pc, lv, .int a :: st, h0) v h)
    (k1 : c → ∀ n', n' < n → rn_s n' m (x, lv, st, h0) v h → P E1) (k2 : ¬ c → ∀ n', n' < n → rn_s n' m (pc + 3, lv, st, h0) v h → P E2) : P (@ite α c ic E1 E2) := by
  by_cases hz : zz_cond cn a = true
  · rw [if_pos (hc.mpr hz)]
    obtain ⟨n1, l1, r1⟩ := rn_one (s' := (x, lv, st, h0)) hT (by simp only [zz_step, zz_if]; rw [if_pos hz]; rfl) r
    exact k1 (hc.mpr hz) n1 l1 r1
  · have hcn : ¬ c := fun z => hz (hc.mp z)
    rw [if_neg hcn]
    obtain ⟨n1, l1, r1⟩ := rn_one (s' := (pc + 3, lv, st, h0)) hT (by simp only [zz_step, zz_if]; rw [if_neg hz]; rfl) r
    exact k2 hcn n1 l1 r1
/-- a branch whose way is known -/
theorem rn_icT {cn : Jvm.ClassFile.Cond} {off : Int} {x y u w : Nat} {vv : Value} {sw : List (Int × Nat)} {a d : Int32} (hT : zz_T m pc = some (.if_icmp cn off, (x, y, u, w), vv, sw)) (hz : zz_cmp cn a d = true) (r : rn_s n m (pc, lv, .int d :: .int a :: st, h0) v h) : ∃ n', n' < n ∧ rn_s n' m (x, lv, st, h0) v h := rn_one hT (by simp only [zz_step, zz_ic]; rw [if_pos hz]; rfl) r
theorem rn_icF {cn : Jvm.ClassFile.Cond} {off : Int} {x y u w : Nat} {vv : Value} {sw : List (Int × Nat)} {a d : Int32} (hT : zz_T m pc = some (.if_icmp cn off, (x, y, u, w), vv, sw)) (hz : ¬ zz_cmp cn a d = true) (r : rn_s n m (pc, lv, .int d :: .int a :: st, h0) v h) : ∃ n', n' < n ∧ rn_s n' m (pc + 3, lv, st, h0) v h := rn_one hT (by simp only [zz_step, zz_ic]; rw [if_neg hz]; rfl) r
theorem rn_ifT {cn : Jvm.ClassFile.Cond} {off : Int} {x y u w : Nat} {vv : Value} {sw : List (Int × Nat)} {a : Int32} (hT : zz_T m pc = some (.ifCond cn off, (x, y, u, w), vv, sw)) (hz : zz_cond cn a = true) (r : rn_s n m (pc, lv, .int a :: st, h0) v h) : ∃ n', n' < n ∧ rn_s n' m (x, lv, st, h0) v h := rn_one hT (by simp only [zz_step, zz_if]; rw [if_pos hz]; rfl) r
theorem rn_ifF {cn : Jvm.ClassFile.Cond} {off : Int} {x y u w : Nat} {vv : Value} {sw : List (Int × Nat)} {a : Int32} (hT : zz_T m pc = some (.ifCond cn off, (x, y, u, w), vv, sw)) (hz : ¬ zz_cond cn a = true) (r : rn_s n m (pc, lv, .int a :: st, h0) v h) : ∃ n', n' < n ∧ rn_s n' m (pc + 3, lv, st, h0) v h := rn_one hT (by simp only [zz_step, zz_if]; rw [if_neg hz]; rfl) r
theorem rn_ire {x y u w : Nat} {vv : Value} {sw : List (Int × Nat)} {a : Int32} (hT : zz_T m pc = some (.ireturn, (x, y, u, w), vv, sw)) (r : rn_s n m (pc, lv, [.int a], h0) v h) : v = some (.int a) ∧ h = h0 := by
  by_cases hz : zz_rt m = 1 ∨ (zz_rt m = 2 ∧ (a = 0 ∨ a = 1))
  · refine rn_ret (q := pc) 1 ?_ r
    rw [zz_walk]
    rw [show zz_Q.1 m pc = _ from hT]
    dsimp only
    rw [show zz_step none zz_us (zz_Q.2.1 m) (.ireturn, (x, y, u, w), vv, sw) pc lv [.int a] h0 = some (.inr (.inl (pc, some (.int a), h0))) from by simp only [zz_step]; exact if_pos hz]
  · exact absurd (rn_no hT (by simp only [zz_step]; exact if_neg hz) r) (fun z => z)
theorem rn_swi {x y u w : Nat} {vv : Value} {sw : List (Int × Nat)} {a : Int32} {dd lo hi : Int} {offs : Array Int} (hT : zz_T m pc = some (.tableswitch dd lo hi offs, (x, y, u, w), vv, sw)) (r : rn_s n m (pc, lv, .int a :: st, h0) v h) : ∃ n', n' < n ∧ rn_s n' m (zz_sw sw x a.toInt, lv, st, h0) v h := rn_one hT rfl r
theorem rn_swl {x y u w : Nat} {vv : Value} {sw : List (Int × Nat)} {a : Int32} {dd : Int} {offs : Array (Int × Int)} (hT : zz_T m pc = some (.lookupswitch dd offs, (x, y, u, w), vv, sw)) (r : rn_s n m (pc, lv, .int a :: st, h0) v h) : ∃ n', n' < n ∧ rn_s n' m (zz_sw sw x a.toInt, lv, st, h0) v h := rn_one hT rfl r
theorem rn_sw1 {α : Type} (P : α → Prop) {t d : Nat} {kk a : Int} {ic : Decidable (a = kk)} {sw : List (Int × Nat)} {E1 E2 : α} (r : rn_s n m (zz_sw ((kk, t) :: sw) d a, lv, st, h0) v h) (k1 : a = kk → rn_s n m (t, lv, st, h0) v h → P E1) (k2 : ¬ a = kk → rn_s n m (zz_sw sw d a, lv, st, h0) v h → P E2) : P (@ite α (a = kk) ic E1 E2) := by
  by_cases hz : a = kk
  · rw [if_pos hz]
    refine k1 hz ?_
    rwa [show zz_sw ((kk, t) :: sw) d a = t from if_pos hz] at r
  · rw [if_neg hz]
    refine k2 hz ?_
    rwa [show zz_sw ((kk, t) :: sw) d a = zz_sw sw d a from if_neg hz] at r
theorem rn_lay (hk : k ≠ 0 ∧ k ≤ 553) : zz_lay (aa_H g) k = some (zz_ly k) := if_pos hk.2
theorem rn_arr {t N : Nat} (hk : k ≠ 0 ∧ k ≤ 553) (hl : zz_ly k = .inl (t, N)) : zz_arr (aa_H g) k t = some N := by
  unfold zz_arr
  rw [rn_lay hk, hl]
  dsimp only
  rw [if_pos rfl]
theorem rn_arr1 {t t' N : Nat} (hk : k ≠ 0 ∧ k ≤ 553) (hl : zz_ly k = .inl (t, N)) (ht : t ≠ t') : zz_arr (aa_H g) k t' = none := by
  unfold zz_arr
  rw [rn_lay hk, hl]
  dsimp only
  rw [if_neg ht]
theorem rn_ial {i : Int32} {N : Nat} {x y u w : Nat} {vv : Value} {sw : List (Int × Nat)} (hT : zz_T m pc = some (.iaload, (x, y, u, w), vv, sw)) (hk : k ≠ 0 ∧ k ≤ 553) (hl : zz_ly k = .inl (0, N)) (r : rn_s n m (pc, lv, .int i :: .ref k :: st, aa_H g) v h) : zz_inb i N = true ∧ ∃ n', n' < n ∧ rn_s n' m (pc + 1, lv, .int (g k i.toNatClampNeg) :: st, aa_H g) v h := by
  obtain ⟨k, rfl⟩ := Nat.exists_eq_succ_of_ne_zero hk.1
  have ha : zz_arr (aa_H g) (k + 1) 0 = some N := rn_arr hk hl
  by_cases hb : zz_inb i N = true
  · refine ⟨hb, rn_one hT ?_ r⟩
    show zz_ial none pc lv (.int i :: .ref (k + 1) :: st) (aa_H g) = _
    unfold zz_ial
    dsimp only
    rw [ha]
    dsimp only
    rw [if_pos hb]
    rfl
  · refine absurd (rn_no hT ?_ r) (fun z => z)
    show zz_ial none pc lv (.int i :: .ref (k + 1) :: st) (aa_H g) = _
    unfold zz_ial
    dsimp only
    rw [ha]
    dsimp only
    rw [if_neg hb]
theorem rn_ias {i a : Int32} {N : Nat} {x y u w : Nat} {vv : Value} {sw : List (Int × Nat)} (hT : zz_T m pc = some (.iastore, (x, y, u, w), vv, sw)) (hk : k ≠ 0 ∧ k ≤ 553) (hl : zz_ly k = .inl (0, N)) (r : rn_s n m (pc, lv, .int a :: .int i :: .ref k :: st, aa_H g) v h) : zz_inb i N = true ∧ ∃ n', n' < n ∧ rn_s n' m (pc + 1, lv, st, aa_H (zz_w g k i.toNatClampNeg a)) v h := by
  obtain ⟨k, rfl⟩ := Nat.exists_eq_succ_of_ne_zero hk.1
  have ha : zz_arr (aa_H g) (k + 1) 0 = some N := rn_arr hk hl
  by_cases hb : zz_inb i N = true
  · refine ⟨hb, rn_one hT ?_ r⟩
    show zz_ias pc lv (.int a :: .int i :: .ref (k + 1) :: st) (aa_H g) = _
    unfold zz_ias
    dsimp only
    rw [ha]
    dsimp only
    rw [if_pos hb]
    rfl
  · refine absurd (rn_no hT ?_ r) (fun z => z)
    show zz_ias pc lv (.int a :: .int i :: .ref (k + 1) :: st) (aa_H g) = _
    unfold zz_ias
    dsimp only
    rw [ha]
    dsimp only
    rw [if_neg hb]
theorem rn_bal {i : Int32} {t N : Nat} {x y u w : Nat} {vv : Value} {sw : List (Int × Nat)} (hT : zz_T m pc = some (.baload, (x, y, u, w), vv, sw)) (hk : k ≠ 0 ∧ k ≤ 553) (hl : zz_ly k = .inl (t, N)) (ht : t = 1 ∨ t = 2) (r : rn_s n m (pc, lv, .int i :: .ref k :: st, aa_H g) v h) : zz_inb i N = true ∧ ∃ n', n' < n ∧ rn_s n' m (pc + 1, lv, .int (g k i.toNatClampNeg) :: st, aa_H g) v h := by
  obtain ⟨k, rfl⟩ := Nat.exists_eq_succ_of_ne_zero hk.1
  have key : zz_bal pc lv (.int i :: .ref (k + 1) :: st) (aa_H g) = if zz_inb i N = true then zz_go (pc + 1) lv (.int (g (k + 1) i.toNatClampNeg) :: st) (aa_H g) else none := by
    unfold zz_bal
    dsimp only
    rcases ht with rfl | rfl
    · rw [rn_arr hk hl]
      dsimp only
      rfl
    · rw [rn_arr1 hk hl (by decide), rn_arr hk hl]
      dsimp only
      rfl
  by_cases hb : zz_inb i N = true
  · rw [if_pos hb] at key
    refine ⟨hb, rn_one hT ?_ r⟩
    exact key
  · rw [if_neg hb] at key
    refine absurd (rn_no hT ?_ r) (fun z => z)
    exact key
theorem rn_bas {i a : Int32} {t N : Nat} {x y u w : Nat} {vv : Value} {sw : List (Int × Nat)} (hT : zz_T m pc = some (.bastore, (x, y, u, w), vv, sw)) (hk : k ≠ 0 ∧ k ≤ 553) (hl : zz_ly k = .inl (t, N)) (ht : t = 1 ∨ t = 2) (r : rn_s n m (pc, lv, .int a :: .int i :: .ref k :: st, aa_H g) v h) : zz_inb i N = true ∧ ∃ n', n' < n ∧ rn_s n' m (pc + 1, lv, st, aa_H (zz_w g k i.toNatClampNeg (if t = 1 then vp_nar .boolean a else vp_nar .byte a))) v h := by
  obtain ⟨k, rfl⟩ := Nat.exists_eq_succ_of_ne_zero hk.1
  have key : zz_bas pc lv (.int a :: .int i :: .ref (k + 1) :: st) (aa_H g) = if zz_inb i N = true then zz_go (pc + 1) lv st (aa_H (zz_w g (k + 1) i.toNatClampNeg (if t = 1 then vp_nar .boolean a else vp_nar .byte a))) else none := by
    unfold zz_bas
    dsimp only
    rcases ht with rfl | rfl
    · rw [rn_arr hk hl, show (if (1 : Nat) = 1 then vp_nar .boolean a else vp_nar .byte a) = vp_nar .boolean a from rfl]
      dsimp only
      rfl
    · rw [rn_arr1 hk hl (by decide), rn_arr hk hl, show (if (2 : Nat) = 1 then vp_nar .boolean a else vp_nar .byte a) = vp_nar .byte a from rfl]
      dsimp only
      rfl
  by_cases hb : zz_inb i N = true
  · rw [if_pos hb] at key
    refine ⟨hb, rn_one hT ?_ r⟩
    exact key
  · rw [if_neg hb] at key
    refine absurd (rn_no hT ?_ r) (fun z => z)
    exact key
/-- a row of objects, this far apart -/
theorem rn_aal {i : Int32} {t N b c : Nat} {rs : List (Option Nat)} {x y u w : Nat} {vv : Value} {sw : List (Int × Nat)} (hT : zz_T m pc = some (.aaload, (x, y, u, w), vv, sw)) (hk : k ≠ 0 ∧ k ≤ 553) (hl : zz_ly k = .inr (.inl (t, rs))) (hN : rs.length = N) (ht : t = 3 ∨ t = 4) (hr : ∀ j, j < N → rs[j]? = some (some (c * j + b))) (r : rn_s n m (pc, lv, .int i :: .ref k :: st, aa_H g) v h) : zz_inb i N = true ∧ ∃ n', n' < n ∧ rn_s n' m (pc + 1, lv, .ref (c * i.toNatClampNeg + b) :: st, aa_H g) v h := by
  subst hN
  obtain ⟨k, rfl⟩ := Nat.exists_eq_succ_of_ne_zero hk.1
  have ha : zz_rar (aa_H g) (k + 1) = some (t, rs) := by
    unfold zz_rar
    rw [rn_lay hk, hl]
  by_cases hb : zz_inb i rs.length = true
  · refine ⟨hb, rn_one hT ?_ r⟩
    have hlt : i.toNatClampNeg < rs.length := by
      have := of_decide_eq_true hb
      omega
    show zz_aal pc lv (.int i :: .ref (k + 1) :: st) (aa_H g) = _
    unfold zz_aal
    dsimp only
    rw [ha]
    dsimp only
    rw [if_pos ⟨hb, ht⟩, hr _ hlt]
    rfl
  · refine absurd (rn_no hT ?_ r) (fun z => z)
    show zz_aal pc lv (.int i :: .ref (k + 1) :: st) (aa_H g) = _
    unfold zz_aal
    dsimp only
    rw [ha]
    dsimp only
    rw [if_neg fun z => hb z.1]
section RF
variable {ci y u w : Nat} {vv : Value} {sw : List (Int × Nat)} {fs : List (Option (Option Nat))}
theorem rn_obj (hk : k ≠ 0 ∧ k ≤ 553) (hl : zz_ly k = .inr (.inr (ci, fs))) : zz_obj (aa_H g) k ci = some fs := by
  unfold zz_obj
  rw [rn_lay hk, hl]
  dsimp only
  rw [if_pos rfl]
theorem rn_gf {i : Nat} (hT : zz_T m pc = some (.getfield i, (ci, y, u, w), vv, sw)) (hk : k ≠ 0 ∧ k ≤ 553) (hl : zz_ly k = .inr (.inr (ci, fs))) (hf : fs[y]? = some none) (r : rn_s n m (pc, lv, .ref k :: st, aa_H g) v h) : ∃ n', n' < n ∧ rn_s n' m (pc + 3, lv, .int (g k y) :: st, aa_H g) v h := by
  obtain ⟨k, rfl⟩ := Nat.exists_eq_succ_of_ne_zero hk.1
  refine rn_one hT ?_ r
  show zz_get ci y pc lv (.ref (k + 1) :: st) (aa_H g) = _
  unfold zz_get
  dsimp only
  rw [rn_obj hk hl]
  dsimp only
  rw [hf]
  rfl
theorem rn_gr {i q : Nat} (hT : zz_T m pc = some (.getfield i, (ci, y, u, w), vv, sw)) (hk : k ≠ 0 ∧ k ≤ 553) (hl : zz_ly k = .inr (.inr (ci, fs))) (hf : fs[y]? = some (some (some q))) (r : rn_s n m (pc, lv, .ref k :: st, aa_H g) v h) : ∃ n', n' < n ∧ rn_s n' m (pc + 3, lv, .ref q :: st, aa_H g) v h := by
  obtain ⟨k, rfl⟩ := Nat.exists_eq_succ_of_ne_zero hk.1
  refine rn_one hT ?_ r
  show zz_get ci y pc lv (.ref (k + 1) :: st) (aa_H g) = _
  unfold zz_get
  dsimp only
  rw [rn_obj hk hl]
  dsimp only
  rw [hf]
  rfl
theorem rn_pf {i : Nat} {a : Int32} (hT : zz_T m pc = some (.putfield i, (ci, y, u, w), vv, sw)) (hk : k ≠ 0 ∧ k ≤ 553) (hl : zz_ly k = .inr (.inr (ci, fs))) (hf : fs[y]? = some none) (r : rn_s n m (pc, lv, .int a :: .ref k :: st, aa_H g) v h) : ∃ n', n' < n ∧ rn_s n' m (pc + 3, lv, st, aa_H (zz_w g k y a)) v h := by
  obtain ⟨k, rfl⟩ := Nat.exists_eq_succ_of_ne_zero hk.1
  have key : zz_put ci y u pc lv (.int a :: .ref (k + 1) :: st) (aa_H g) = if u = 0 ∨ (u = 1 ∧ (a = 0 ∨ a = 1)) then zz_go (pc + 3) lv st (aa_H (zz_w g (k + 1) y a)) else none := by
    unfold zz_put
    dsimp only
    rw [rn_obj hk hl]
    dsimp only
    rw [hf]
    rfl
  by_cases hu : u = 0 ∨ (u = 1 ∧ (a = 0 ∨ a = 1))
  · rw [if_pos hu] at key
    refine rn_one hT ?_ r
    exact key
  · rw [if_neg hu] at key
    refine absurd (rn_no hT ?_ r) (fun z => z)
    exact key
end RF
theorem rn_div {a b : Int32} {x y u w : Nat} {vv : Value} {sw : List (Int × Nat)} (hT : zz_T m pc = some (.idiv, (x, y, u, w), vv, sw)) (r : rn_s n m (pc, lv, .int b :: .int a :: st, h0) v h) : b ≠ 0 ∧ ∃ n', n' < n ∧ rn_s n' m (pc + 1, lv, .int (a / b) :: st, h0) v h := by
  by_cases hb : b = 0
  · exact absurd (rn_no hT (by simp only [zz_step]; exact if_pos hb) r) (fun z => z)
  · exact ⟨hb, rn_one hT (by simp only [zz_step]; exact if_neg hb) r⟩
theorem rn_rem {a b : Int32} {x y u w : Nat} {vv : Value} {sw : List (Int × Nat)} (hT : zz_T m pc = some (.irem, (x, y, u, w), vv, sw)) (r : rn_s n m (pc, lv, .int b :: .int a :: st, h0) v h) : b ≠ 0 ∧ ∃ n', n' < n ∧ rn_s n' m (pc + 1, lv, .int (a - a / b * b) :: st, h0) v h := by
  by_cases hb : b = 0
  · exact absurd (rn_no hT (by simp only [zz_step]; exact if_pos hb) r) (fun z => z)
  · exact ⟨hb, rn_one hT (by simp only [zz_step]; exact if_neg hb) r⟩
theorem rn_ldiv {a b : Int64} {x y u w : Nat} {vv : Value} {sw : List (Int × Nat)} (hT : zz_T m pc = some (.ldiv, (x, y, u, w), vv, sw)) (r : rn_s n m (pc, lv, .long b :: .long a :: st, h0) v h) : b ≠ 0 ∧ ∃ n', n' < n ∧ rn_s n' m (pc + 1, lv, .long (a / b) :: st, h0) v h := by
  by_cases hb : b = 0
  · exact absurd (rn_no hT (by simp only [zz_step]; exact if_pos hb) r) (fun z => z)
  · exact ⟨hb, rn_one hT (by simp only [zz_step]; exact if_neg hb) r⟩
/-- a store behind a local that nobody reads -/
theorem rn_ist {i : Nat} {x0 : Option Value} {a : Int32} (hx : rn_jk x0) (hl : lv[i]? = some x0) : zz_st1 lv (i + 1) (.int a) = lv.set (i + 1) (some (.int a)) := by
  unfold zz_st1 zz_pre
  dsimp only
  rw [hl]
  cases x0 with
  | none => rfl
  | some v =>
    dsimp only
    rw [if_neg (hx v rfl)]
theorem rn_ist0 {a : Int32} : zz_st1 lv 0 (.int a) = lv.set 0 (some (.int a)) := rfl
/-- a local gets a number -/
theorem rn_isx {i : Nat} {a : Int32} {x0 : Option Value} (hT : zz_T m pc = some e) (he : e.1 = .istore i) (hx : rn_jk x0) (hl : lv[i - 1]? = some x0) (hi : 0 < i ∧ i < lv.length) (r : rn_s n m (pc, lv, .int a :: st, h0) v h) : ∃ n', n' < n ∧ rn_s n' m (pc + 2, lv.set i (some (.int a)), st, h0) v h := by
  obtain ⟨e1, ⟨x, y, u, w⟩, vv, sw⟩ := e
  cases he
  refine rn_one hT ?_ r
  show zz_is lv i (pc + 2) (.int a :: st) h0 = _
  unfold zz_is
  dsimp only
  rw [if_pos hi.2]
  obtain ⟨i, rfl⟩ := Nat.exists_eq_succ_of_ne_zero (Nat.pos_iff_ne_zero.mp hi.1)
  rw [show zz_st1 lv (Nat.succ i) (.int a) = lv.set (Nat.succ i) (some (.int a)) from rn_ist hx hl]
  rfl
theorem rn_isn {i : Fin 4} {a : Int32} {x0 : Option Value} (hT : zz_T m pc = some e) (he : e.1 = .istore_n i) (hx : rn_jk x0) (hl : lv[(i : Nat) - 1]? = some x0) (hi : 0 < (i : Nat) ∧ (i : Nat) < lv.length) (r : rn_s n m (pc, lv, .int a :: st, h0) v h) : ∃ n', n' < n ∧ rn_s n' m (pc + 1, lv.set (i : Nat) (some (.int a)), st, h0) v h := by
  obtain ⟨e1, ⟨x, y, u, w⟩, vv, sw⟩ := e
  cases he
  refine rn_one hT ?_ r
  show zz_is lv (i : Nat) (pc + 1) (.int a :: st) h0 = _
  unfold zz_is
  dsimp only
  rw [if_pos hi.2]
  generalize (i : Nat) = j at hi hl ⊢
  obtain ⟨j, rfl⟩ := Nat.exists_eq_succ_of_ne_zero (Nat.pos_iff_ne_zero.mp hi.1)
  rw [show zz_st1 lv (Nat.succ j) (.int a) = lv.set (Nat.succ j) (some (.int a)) from rn_ist hx hl]
  rfl
theorem rn_iin {i : Nat} {d : Int} {a : Int32} {x0 : Option Value} (hT : zz_T m pc = some e) (he : e.1 = .iinc i d) (hx : rn_jk x0) (hl : lv[i - 1]? = some x0) (ha : lv[i]? = some (some (.int a))) (hi : 0 < i ∧ i < lv.length) (r : rn_s n m (pc, lv, st, h0) v h) : ∃ n', n' < n ∧ rn_s n' m (pc + 3, lv.set i (some (.int (a + Int32.ofInt d))), st, h0) v h := by
  obtain ⟨e1, ⟨x, y, u, w⟩, vv, sw⟩ := e
  cases he
  refine rn_one hT ?_ r
  simp only [zz_step]
  have hld : zz_ld lv i = some (.int a) := by
    unfold zz_ld
    rw [ha]
  rw [hld]
  dsimp only
  rw [if_pos hi.2]
  obtain ⟨i, rfl⟩ := Nat.exists_eq_succ_of_ne_zero (Nat.pos_iff_ne_zero.mp hi.1)
  rw [show zz_st1 lv (Nat.succ i) (.int (a + Int32.ofInt d)) = lv.set (Nat.succ i) (some (.int (a + Int32.ofInt d))) from rn_ist hx hl]
  rfl
end RN
/-! LOOPS as functions -/
def lp_n {σ ρ : Type} (f : σ → σ ⊕ ρ) : Nat → σ → Option ρ
  | 0, _ => none
  | n + 1, s => match f s with
    | .inl s' => lp_n f n s'
    | .inr r => some r
noncomputable def lp_f {σ ρ : Type} (d : ρ) (f : σ → σ ⊕ ρ) (s : σ) : ρ := @Classical.epsilon ρ ⟨d⟩ (fun r => ∃ n, lp_n f n s = some r)
theorem lp_l {σ ρ : Type} {d : ρ} {f : σ → σ ⊕ ρ} {s s' : σ} (h : f s = .inl s') : lp_f d f s = lp_f d f s' := by
  unfold lp_f
  congr 1
  funext r
  refine propext ⟨fun ⟨n, e⟩ => ?_, fun ⟨n, e⟩ => ⟨n + 1, ?_⟩⟩
  · cases n with
    | zero => cases e
    | succ n =>
      rw [lp_n, h] at e
      exact ⟨n, e⟩
  · rw [lp_n, h]
    exact e
theorem lp_r {σ ρ : Type} {d : ρ} {f : σ → σ ⊕ ρ} {s : σ} {r : ρ} (h : f s = .inr r) : lp_f d f s = r := by
  have hx : ∃ r', ∃ n, lp_n f n s = some r' := ⟨r, 1, by rw [lp_n, h]⟩
  have h1 : ∃ n, lp_n f n s = some (lp_f d f s) := @Classical.epsilon_spec_aux ρ ⟨d⟩ (fun r => ∃ n, lp_n f n s = some r) hx
  obtain ⟨n, e⟩ := h1
  cases n with
  | zero => cases e
  | succ n =>
    rw [lp_n, h] at e
    exact (Option.some.inj e).symm
/-- a step's worth: where it goes on, or how it ended -/
def lp_q {σ ρ : Type} (P : ρ → Prop) (d : ρ) (f : σ → σ ⊕ ρ) (x : σ ⊕ ρ) : Prop := P (match x with
  | .inl s' => lp_f d f s'
  | .inr r => r)
theorem lp_eq {σ ρ : Type} {d : ρ} {f : σ → σ ⊕ ρ} {s : σ} : lp_f d f s = (match f s with
  | .inl s' => lp_f d f s'
  | .inr r => r) := by
  cases h : f s with
  | inl s' => exact lp_l h
  | inr r => exact lp_r h
theorem lp_go {σ ρ : Type} {P : ρ → Prop} {d : ρ} {f : σ → σ ⊕ ρ} {s : σ} (h : lp_q P d f (f s)) : P (lp_f d f s) := by
  rw [lp_eq]
  exact h
/-! what a method answers and leaves -/
def ir_s (g : aa_G) (v : Option Value) (h : zz_H) (E : Int32) : Prop := v = some (.int E) ∧ h = aa_H g
def iw_s (v : Option Value) (h : zz_H) (E : Int32 × aa_G) : Prop := v = some (.int E.1) ∧ h = aa_H E.2
def ig_s (v : Option Value) (h : zz_H) (E : aa_G) : Prop := v = none ∧ h = aa_H E
def io_s (g : aa_G) (v : Option Value) (h : zz_H) (E : Option Nat) : Prop := v = some (zz_val E) ∧ h = aa_H g ∧ ∀ W, E = some W → ct_tw W
theorem rn_io0 {g : aa_G} {v : Option Value} {h : zz_H} (k : v = some .null ∧ h = aa_H g) : io_s g v h none := ⟨k.1, k.2, fun W e => by cases e⟩
theorem rn_io1 {g : aa_G} {v : Option Value} {h : zz_H} {T : Nat} (hT : ct_tw T) (k : v = some (.ref T) ∧ h = aa_H g) : io_s g v h (some T) := ⟨k.1, k.2, fun W e => by cases e; exact hT⟩
/-! objects of the class by their cell -/
def ar_12 (A : Nat) : Prop := (A ≠ 0 ∧ A ≤ 553) ∧ zz_ly A = .inl (0, 12)
def ar_16 (A : Nat) : Prop := (A ≠ 0 ∧ A ≤ 553) ∧ zz_ly A = .inl (0, 16)
theorem tw_hk {T : Nat} (h : ct_tw T) : T ≠ 0 ∧ T ≤ 553 := ⟨h.1.1, by have := h.1.2; omega⟩
theorem tw_hl {T : Nat} (h : ct_tw T) : zz_ly T = .inr (.inr (7, [none, none, some (some (T + 1)), some (some (T + 2)), some (some (T + 3)), some (some (T + 4))])) := h.2.1
theorem tw_a1 {T : Nat} (h : ct_tw T) : ar_12 (T + 1) := ⟨⟨by omega, by have := h.1.2; omega⟩, h.2.2.1⟩
theorem tw_a2 {T : Nat} (h : ct_tw T) : ar_12 (T + 2) := ⟨⟨by omega, by have := h.1.2; omega⟩, h.2.2.2.1⟩
theorem tw_a3 {T : Nat} (h : ct_tw T) : ar_12 (T + 3) := ⟨⟨by omega, by have := h.1.2; omega⟩, h.2.2.2.2.1⟩
theorem tw_a4 {T : Nat} (h : ct_tw T) : ar_12 (T + 4) := ⟨⟨by omega, by have := h.1.2; omega⟩, h.2.2.2.2.2⟩
theorem ar_hk {A : Nat} (h : ar_12 A) : A ≠ 0 ∧ A ≤ 553 := h.1
/-- a span -/
def sp_ok (P : Nat) : Prop := (P ≠ 0 ∧ P ≤ 553) ∧ zz_ly P = .inr (.inr (4, [none, none, none, none, none, none, none, none]))
theorem sp_hk {P : Nat} (h : sp_ok P) : P ≠ 0 ∧ P ≤ 553 := h.1
theorem sp_hl {P : Nat} (h : sp_ok P) : zz_ly P = .inr (.inr (4, [none, none, none, none, none, none, none, none])) := h.2
theorem sp_c461 : sp_ok 461 := ⟨⟨by decide, by decide⟩, rfl⟩
theorem sp_c462 : sp_ok 462 := ⟨⟨by decide, by decide⟩, rfl⟩
theorem sp_c466 : sp_ok 466 := ⟨⟨by decide, by decide⟩, rfl⟩
theorem sp_c467 : sp_ok 467 := ⟨⟨by decide, by decide⟩, rfl⟩
theorem sp_c468 : sp_ok 468 := ⟨⟨by decide, by decide⟩, rfl⟩
/-- rings of a day -/
def rg_ok (Q : Nat) : Prop := (Q ≠ 0 ∧ Q + 5 ≤ 553) ∧ zz_ly Q = .inr (.inr (3, [none, some (some (Q + 1)), some (some (Q + 2)), some (some (Q + 3)), some (some (Q + 4)), some (some (Q + 5))])) ∧ (ar_16 (Q + 1) ∧ ar_16 (Q + 2)) ∧ sp_ok (Q + 3) ∧ sp_ok (Q + 4) ∧ sp_ok (Q + 5)
theorem rg_c463 : rg_ok 463 := ⟨⟨by decide, by decide⟩, rfl, ⟨⟨⟨by decide, by decide⟩, rfl⟩, ⟨⟨by decide, by decide⟩, rfl⟩⟩, ⟨⟨by decide, by decide⟩, rfl⟩, ⟨⟨by decide, by decide⟩, rfl⟩, ⟨⟨by decide, by decide⟩, rfl⟩⟩
theorem rg_c469 : rg_ok 469 := ⟨⟨by decide, by decide⟩, rfl, ⟨⟨⟨by decide, by decide⟩, rfl⟩, ⟨⟨by decide, by decide⟩, rfl⟩⟩, ⟨⟨by decide, by decide⟩, rfl⟩, ⟨⟨by decide, by decide⟩, rfl⟩, ⟨⟨by decide, by decide⟩, rfl⟩⟩
theorem rg_hk {Q : Nat} (h : rg_ok Q) : Q ≠ 0 ∧ Q ≤ 553 := ⟨h.1.1, by have := h.1.2; omega⟩
theorem rg_hl {Q : Nat} (h : rg_ok Q) : zz_ly Q = .inr (.inr (3, [none, some (some (Q + 1)), some (some (Q + 2)), some (some (Q + 3)), some (some (Q + 4)), some (some (Q + 5))])) := h.2.1
theorem rg_a1 {Q : Nat} (h : rg_ok Q) : ar_16 (Q + 1) := h.2.2.1.1
theorem rg_a2 {Q : Nat} (h : rg_ok Q) : ar_16 (Q + 2) := h.2.2.1.2
theorem rg_s3 {Q : Nat} (h : rg_ok Q) : sp_ok (Q + 3) := h.2.2.2.1
theorem rg_s4 {Q : Nat} (h : rg_ok Q) : sp_ok (Q + 4) := h.2.2.2.2.1
theorem rg_s5 {Q : Nat} (h : rg_ok Q) : sp_ok (Q + 5) := h.2.2.2.2.2
theorem rn_twat {i : Int32} (h : zz_inb i 4 = true) : ct_tw (5 * i.toNatClampNeg + 14) := by
  have h1 := of_decide_eq_true h
  exact cs_tw_at cs_ok_2 (by omega)
theorem tw_c14 : ct_tw 14 := cs_ok_2.2.2.1
theorem rn_o0 : ∀ T, (none : Option Nat) = some T → ct_tw T := fun T e => by cases e
theorem rn_o1 {W : Nat} (h : ct_tw W) : ∀ T, some W = some T → ct_tw T := fun T e => by cases e; exact h
end
section
/-! a method that answers nothing: the heap that it leaves, whatever it is; remember -/
noncomputable def ep_g (m : Nat) (as : List Value) (g : aa_G) : aa_G := @Classical.epsilon aa_G ⟨g⟩ (fun g' => ∃ n, rn_s n m (0, zz_in as (zz_nl m), [], aa_H g) none (aa_H g'))
theorem ep_H {a b : aa_G} (h : aa_H a = aa_H b) : a = b := congrArg (fun x => x.2.2) h
theorem ep_ok {m : Nat} {as : List Value} {g : aa_G} {φ : aa_G → Prop} (f : zz_fin none m (0, zz_in as (zz_nl m), [], aa_H g) (fun v h => v = none ∧ ∃ g', h = aa_H g' ∧ φ g')) : (∀ n v h, rn_s n m (0, zz_in as (zz_nl m), [], aa_H g) v h → v = none ∧ h = aa_H (ep_g m as g)) ∧ φ (ep_g m as g) := by
  obtain ⟨n, v, h, r, rfl, g', rfl, hφ⟩ := rn_of f
  have hx : ∃ g', ∃ n, rn_s n m (0, zz_in as (zz_nl m), [], aa_H g) none (aa_H g') := ⟨g', n, r⟩
  have h1 : ∃ n, rn_s n m (0, zz_in as (zz_nl m), [], aa_H g) none (aa_H (ep_g m as g)) := @Classical.epsilon_spec_aux aa_G ⟨g⟩ (fun g' => ∃ n, rn_s n m (0, zz_in as (zz_nl m), [], aa_H g) none (aa_H g')) hx
  obtain ⟨n2, r2⟩ := h1
  have e : ep_g m as g = g' := ep_H (rn_det r2 r).2
  refine ⟨fun n3 v3 h3 r3 => rn_det r3 r2, ?_⟩
  rw [e]
  exact hφ
/-- the ring of deeds is in order -/
def rem_ok (g : aa_G) : Prop := ∃ c e, c ≤ 12 ∧ e < 12 ∧ g 66 0 = Int32.ofNat c ∧ g 66 1 = Int32.ofNat e
noncomputable def fn_40 (g : aa_G) : aa_G := ep_g 40 [.ref 66, .ref 2] g
theorem dn_40 {v : Option Value} {h : zz_H} {n : Nat} {g : aa_G} (hi : rem_ok g) (r : rn_s n 40 (0, zz_in [.ref 66, .ref 2] (zz_nl 40), [], aa_H g) v h) : ig_s v h (fn_40 g) := by
  obtain ⟨c, e, hc, he, h0, h1⟩ := hi
  exact (ep_ok (cd_rem he hc h0 h1)).1 n v h r
theorem dk_40 {g : aa_G} {c e : Nat} (hc : c ≤ 12) (he : e < 12) (h0 : g 66 0 = Int32.ofNat c) (h1 : g 66 1 = Int32.ofNat e) : cd_push g (fn_40 g) 2 e c := (ep_ok (cd_rem he hc h0 h1)).2
/-- copyFrom of states; adopt; takeBack -/
theorem rn_stat {i : Int32} (h : zz_inb i 2 = true) : cs_ok (32 * i.toNatClampNeg + 476) := by
  have h1 := of_decide_eq_true h
  rcases (show i.toNatClampNeg = 0 ∨ i.toNatClampNeg = 1 by omega) with e | e <;> rw [e]
  · exact cs_ok_476
  · exact cs_ok_508
theorem st_hk {S : Nat} (h : cs_ok S) : S ≠ 0 ∧ S ≤ 553 := ⟨h.1.1.1, by have := h.1.1.2; omega⟩
theorem st_hl {S : Nat} (h : cs_ok S) : zz_ly S = .inr (.inr (5, [none, none, some (some (S + 1)), some (some (S + 2))])) := h.1.2.1
noncomputable def fn_16 (g : aa_G) (S F : Nat) : aa_G := ep_g 16 [.ref S, .ref F] g
theorem dn_16 {v : Option Value} {h : zz_H} {n : Nat} {g : aa_G} {S F : Nat} (hS : cs_ok S) (hF : cs_ok F) (hd : S + 32 ≤ F ∨ F + 32 ≤ S) (r : rn_s n 16 (0, zz_in [.ref S, .ref F] (zz_nl 16), [], aa_H g) v h) : ig_s v h (fn_16 g S F) := (ep_ok (cp_state hS hF hd)).1 n v h r
theorem dk_16 {g : aa_G} {S F : Nat} (hS : cs_ok S) (hF : cs_ok F) (hd : S + 32 ≤ F ∨ F + 32 ≤ S) : cp_st g (fn_16 g S F) S F ∧ cp_fr g (fn_16 g S F) S (S + 31) := (ep_ok (cp_state hS hF hd)).2
noncomputable def fn_39 (g : aa_G) (F : Nat) : aa_G := ep_g 39 [.ref 1, .ref F] g
theorem ep_39 {g : aa_G} {F e c : Nat} (hF : cs_ok F) (hF2 : 34 ≤ F) (he : e < 12) (hc : c ≤ 12) (h0 : g 66 0 = Int32.ofNat c) (h1 : g 66 1 = Int32.ofNat e) : zz_fin none 39 (0, zz_in [.ref 1, .ref F] (zz_nl 39), [], aa_H g) (fun v h => v = none ∧ ∃ g', h = aa_H g' ∧ ∃ g1, cd_push g g1 2 e c ∧ cp_st g1 g' 2 F ∧ cp_fr g1 g' 2 33) := (cd_adopt hF hF2 he hc h0 h1).mono fun v h ⟨k, g1, g', e1, e2⟩ => ⟨k, g', e1, g1, e2⟩
theorem dn_39 {v : Option Value} {h : zz_H} {n : Nat} {g : aa_G} {F : Nat} (hF : cs_ok F) (hF2 : 34 ≤ F) (hi : rem_ok g) (r : rn_s n 39 (0, zz_in [.ref 1, .ref F] (zz_nl 39), [], aa_H g) v h) : ig_s v h (fn_39 g F) := by
  obtain ⟨c, e, hc, he, h0, h1⟩ := hi
  exact (ep_ok (ep_39 hF hF2 he hc h0 h1)).1 n v h r
theorem dk_39 {g : aa_G} {F e c : Nat} (hF : cs_ok F) (hF2 : 34 ≤ F) (he : e < 12) (hc : c ≤ 12) (h0 : g 66 0 = Int32.ofNat c) (h1 : g 66 1 = Int32.ofNat e) : ∃ g1, cd_push g g1 2 e c ∧ cp_st g1 (fn_39 g F) 2 F ∧ cp_fr g1 (fn_39 g F) 2 33 := (ep_ok (ep_39 hF hF2 he hc h0 h1)).2
noncomputable def fn_142 (g : aa_G) : Int32 × aa_G := @Classical.epsilon (Int32 × aa_G) ⟨(0, g)⟩ (fun p => ∃ n, rn_s n 142 (0, zz_in [.ref 66, .ref 2] (zz_nl 142), [], aa_H g) (some (.int p.1)) (aa_H p.2))
theorem ep_142 {g : aa_G} {e c : Nat} (he : e < 12) (hc : c ≤ 12) (h0 : g 66 0 = Int32.ofNat c) (h1 : g 66 1 = Int32.ofNat e) : (∀ n v h, rn_s n 142 (0, zz_in [.ref 66, .ref 2] (zz_nl 142), [], aa_H g) v h → iw_s v h (fn_142 g)) ∧ ((c = 0 ∧ fn_142 g = (0, g)) ∨ (c ≠ 0 ∧ (fn_142 g).1 = 1 ∧ cd_pop g (fn_142 g).2 e c)) := by
  obtain ⟨n, v, h, r, hp⟩ := rn_of (cd_back he hc h0 h1)
  have hx : ∃ p : Int32 × aa_G, (v = some (.int p.1) ∧ h = aa_H p.2) ∧ ((c = 0 ∧ p = (0, g)) ∨ (c ≠ 0 ∧ p.1 = 1 ∧ cd_pop g p.2 e c)) := by
    rcases hp with ⟨a, b, d⟩ | ⟨a, b, g', d, f⟩
    · exact ⟨(0, g), ⟨b, d⟩, .inl ⟨a, rfl⟩⟩
    · exact ⟨(1, g'), ⟨b, d⟩, .inr ⟨a, rfl, f⟩⟩
  obtain ⟨p, ⟨rfl, rfl⟩, hq⟩ := hx
  have h1 : ∃ n, rn_s n 142 (0, zz_in [.ref 66, .ref 2] (zz_nl 142), [], aa_H g) (some (.int (fn_142 g).1)) (aa_H (fn_142 g).2) := @Classical.epsilon_spec_aux (Int32 × aa_G) ⟨(0, g)⟩ (fun p => ∃ n, rn_s n 142 (0, zz_in [.ref 66, .ref 2] (zz_nl 142), [], aa_H g) (some (.int p.1)) (aa_H p.2)) ⟨p, n, r⟩
  obtain ⟨n2, r2⟩ := h1
  have e1 := rn_det r2 r
  have e2 : fn_142 g = p := Prod.ext (by
    have := Option.some.inj e1.1
    injection this) (ep_H e1.2)
  refine ⟨fun n3 v3 h3 r3 => rn_det r3 r2, ?_⟩
  rw [e2]
  exact hq
theorem dn_142 {v : Option Value} {h : zz_H} {n : Nat} {g : aa_G} (hi : rem_ok g) (r : rn_s n 142 (0, zz_in [.ref 66, .ref 2] (zz_nl 142), [], aa_H g) v h) : iw_s v h (fn_142 g) := by
  obtain ⟨c, e, hc, he, h0, h1⟩ := hi
  exact (ep_142 he hc h0 h1).1 n v h r
end
section
/-! METHODS READ (printed by wip/dc/dc.py) -/
-- 82: java/lang/Math floorDiv
noncomputable def fn_82 (a0 : Int32) (a1 : Int32) : Int32 := if 0 ≤ (a0 ^^^ a1) then a0 / a1 else if ((a0 / a1) * a1) = a0 then a0 / a1 else (a0 / a1) - 1
theorem dn_82 {v : Option Value} {h : zz_H} {n : Nat} {g : aa_G} {a0 : Int32} {a1 : Int32}  (r : rn_s n 82 (0, zz_in [.int a0, .int a1] (zz_nl 82), [], aa_H g) v h) : ir_s g v h (fn_82 a0 a1) := by
  have r : rn_s n 82 (0, [some (.int a0), some (.int a1), none], [], aa_H g) v h := r
  unfold fn_82
  obtain ⟨n1, ln1, r⟩ := rn_steps 1 (2, [some (.int a0), some (.int a1), none], [.int a1, .int a0], aa_H g) rfl r
  obtain ⟨hd3, n2, ln2, r⟩ := rn_div rfl r
  have r : rn_s _ 82 (3, [some (.int a0), some (.int a1), none], [.int (a0 / a1)], aa_H g) v h := r
  obtain ⟨n4, ln4, r⟩ := rn_steps 3 (7, [some (.int a0), some (.int a1), some (.int (a0 / a1))], [.int (a0 ^^^ a1)], aa_H g) rfl r
  refine rn_if (ir_s g v h) rfl decide_eq_true_iff.symm r (fun c5 l6n l6 r => ?_) (fun c5 l6n l6 r => ?_)
  · obtain ⟨n7, ln7, r⟩ := rn_steps 0 (22, [some (.int a0), some (.int a1), some (.int (a0 / a1))], [.int (a0 / a1)], aa_H g) rfl r
    exact rn_ire rfl r
  · obtain ⟨n8, ln8, r⟩ := rn_steps 3 (14, [some (.int a0), some (.int a1), some (.int (a0 / a1))], [.int a0, .int ((a0 / a1) * a1)], aa_H g) rfl r
    refine rn_ic (ir_s g v h) rfl decide_eq_true_iff.symm r (fun c9 l10n l10 r => ?_) (fun c9 l10n l10 r => ?_)
    · obtain ⟨n11, ln11, r⟩ := rn_steps 0 (22, [some (.int a0), some (.int a1), some (.int (a0 / a1))], [.int (a0 / a1)], aa_H g) rfl r
      exact rn_ire rfl r
    · obtain ⟨n12, ln12, r⟩ := rn_steps 2 (20, [some (.int a0), some (.int a1), some (.int (a0 / a1))], [.int ((a0 / a1) - 1)], aa_H g) rfl r
      exact rn_ire rfl r
-- 81: java/lang/Math floorMod
noncomputable def fn_81 (a0 : Int32) (a1 : Int32) : Int32 := if 0 ≤ (a0 ^^^ a1) then a0 - a0 / a1 * a1 else if (a0 - a0 / a1 * a1) = 0 then a0 - a0 / a1 * a1 else (a0 - a0 / a1 * a1) + a1
theorem dn_81 {v : Option Value} {h : zz_H} {n : Nat} {g : aa_G} {a0 : Int32} {a1 : Int32}  (r : rn_s n 81 (0, zz_in [.int a0, .int a1] (zz_nl 81), [], aa_H g) v h) : ir_s g v h (fn_81 a0 a1) := by
  have r : rn_s n 81 (0, [some (.int a0), some (.int a1), none], [], aa_H g) v h := r
  unfold fn_81
  obtain ⟨n1, ln1, r⟩ := rn_steps 1 (2, [some (.int a0), some (.int a1), none], [.int a1, .int a0], aa_H g) rfl r
  obtain ⟨hd3, n2, ln2, r⟩ := rn_rem rfl r
  have r : rn_s _ 81 (3, [some (.int a0), some (.int a1), none], [.int (a0 - a0 / a1 * a1)], aa_H g) v h := r
  obtain ⟨n4, ln4, r⟩ := rn_steps 3 (7, [some (.int a0), some (.int a1), some (.int (a0 - a0 / a1 * a1))], [.int (a0 ^^^ a1)], aa_H g) rfl r
  refine rn_if (ir_s g v h) rfl decide_eq_true_iff.symm r (fun c5 l6n l6 r => ?_) (fun c5 l6n l6 r => ?_)
  · obtain ⟨n7, ln7, r⟩ := rn_steps 0 (19, [some (.int a0), some (.int a1), some (.int (a0 - a0 / a1 * a1))], [.int (a0 - a0 / a1 * a1)], aa_H g) rfl r
    exact rn_ire rfl r
  · obtain ⟨n8, ln8, r⟩ := rn_steps 0 (11, [some (.int a0), some (.int a1), some (.int (a0 - a0 / a1 * a1))], [.int (a0 - a0 / a1 * a1)], aa_H g) rfl r
    refine rn_if (ir_s g v h) rfl decide_eq_true_iff.symm r (fun c9 l10n l10 r => ?_) (fun c9 l10n l10 r => ?_)
    · obtain ⟨n11, ln11, r⟩ := rn_steps 0 (19, [some (.int a0), some (.int a1), some (.int (a0 - a0 / a1 * a1))], [.int (a0 - a0 / a1 * a1)], aa_H g) rfl r
      exact rn_ire rfl r
    · obtain ⟨n12, ln12, r⟩ := rn_steps 2 (17, [some (.int a0), some (.int a1), some (.int (a0 - a0 / a1 * a1))], [.int ((a0 - a0 / a1 * a1) + a1)], aa_H g) rfl r
      exact rn_ire rfl r
-- 80: UnequalHours Span readBetween
noncomputable def fn_80_130 (g : aa_G) (B0 : Nat) (B1 : Nat) (b3 : Int32) (b5 : Int32) (b6 : Int32) : aa_G := zz_w g B0 7 ((g B0 7) + (fn_82 (((g (B1 + 3) b3.toNatClampNeg) - (g B0 7)) * b6) b5))
theorem dn_80_130 {v : Option Value} {h : zz_H} {n : Nat} {g : aa_G} {B0 : Nat} {B1 : Nat} {b3 : Int32} {b5 : Int32} {b6 : Int32} (hB0 : sp_ok B0) (hB1 : ct_tw B1) (x2 x4 : Option Value) (jx2 : rn_jk x2) (jx4 : rn_jk x4) (r : rn_s n 80 (130, [some (.ref B0), some (.ref B1), x2, some (.int b3), x4, some (.int b5), some (.int b6)], [.ref B0, .ref B0], aa_H g) v h) : ig_s v h (fn_80_130 g B0 B1 b3 b5 b6) := by
  unfold fn_80_130
  obtain ⟨n77, ln77, r⟩ := rn_gf rfl (sp_hk hB0) (sp_hl hB0) rfl r
  have r : rn_s _ 80 (133, [some (.ref B0), some (.ref B1), x2, some (.int b3), x4, some (.int b5), some (.int b6)], [.int (g B0 7), .ref B0], aa_H g) v h := r
  obtain ⟨n78, ln78, r⟩ := rn_steps 0 (134, [some (.ref B0), some (.ref B1), x2, some (.int b3), x4, some (.int b5), some (.int b6)], [.ref B1, .int (g B0 7), .ref B0], aa_H g) rfl r
  obtain ⟨n79, ln79, r⟩ := rn_gr rfl (tw_hk hB1) (tw_hl hB1) rfl r
  have r : rn_s _ 80 (137, [some (.ref B0), some (.ref B1), x2, some (.int b3), x4, some (.int b5), some (.int b6)], [.ref (B1 + 3), .int (g B0 7), .ref B0], aa_H g) v h := r
  obtain ⟨n80, ln80, r⟩ := rn_steps 0 (138, [some (.ref B0), some (.ref B1), x2, some (.int b3), x4, some (.int b5), some (.int b6)], [.int b3, .ref (B1 + 3), .int (g B0 7), .ref B0], aa_H g) rfl r
  obtain ⟨hb82, n81, ln81, r⟩ := rn_ial rfl (tw_a3 hB1).1 (tw_a3 hB1).2 r
  have r : rn_s _ 80 (139, [some (.ref B0), some (.ref B1), x2, some (.int b3), x4, some (.int b5), some (.int b6)], [.int (g (B1 + 3) b3.toNatClampNeg), .int (g B0 7), .ref B0], aa_H g) v h := r
  obtain ⟨n83, ln83, r⟩ := rn_steps 0 (140, [some (.ref B0), some (.ref B1), x2, some (.int b3), x4, some (.int b5), some (.int b6)], [.ref B0, .int (g (B1 + 3) b3.toNatClampNeg), .int (g B0 7), .ref B0], aa_H g) rfl r
  obtain ⟨n84, ln84, r⟩ := rn_gf rfl (sp_hk hB0) (sp_hl hB0) rfl r
  have r : rn_s _ 80 (143, [some (.ref B0), some (.ref B1), x2, some (.int b3), x4, some (.int b5), some (.int b6)], [.int (g B0 7), .int (g (B1 + 3) b3.toNatClampNeg), .int (g B0 7), .ref B0], aa_H g) v h := r
  obtain ⟨n85, ln85, r⟩ := rn_steps 3 (149, [some (.ref B0), some (.ref B1), x2, some (.int b3), x4, some (.int b5), some (.int b6)], [.int b5, .int (((g (B1 + 3) b3.toNatClampNeg) - (g B0 7)) * b6), .int (g B0 7), .ref B0], aa_H g) rfl r
  obtain ⟨_, n86, v1, h1, -, ln86, rc, r⟩ := rn_call (m2 := 82) (as := [.int (((g (B1 + 3) b3.toNatClampNeg) - (g B0 7)) * b6), .int b5]) (rest := [.int (g B0 7), .ref B0]) rfl rfl r
  obtain ⟨rfl, rfl⟩ := dn_82 rc
  have r : rn_s _ 80 (152, [some (.ref B0), some (.ref B1), x2, some (.int b3), x4, some (.int b5), some (.int b6)], [.int (fn_82 (((g (B1 + 3) b3.toNatClampNeg) - (g B0 7)) * b6) b5), .int (g B0 7), .ref B0], aa_H g) v h := r
  obtain ⟨n88, ln88, r⟩ := rn_steps 0 (153, [some (.ref B0), some (.ref B1), x2, some (.int b3), x4, some (.int b5), some (.int b6)], [.int ((g B0 7) + (fn_82 (((g (B1 + 3) b3.toNatClampNeg) - (g B0 7)) * b6) b5)), .ref B0], aa_H g) rfl r
  obtain ⟨n89, ln89, r⟩ := rn_pf rfl (sp_hk hB0) (sp_hl hB0) rfl r
  have r : rn_s _ 80 (156, [some (.ref B0), some (.ref B1), x2, some (.int b3), x4, some (.int b5), some (.int b6)], [], aa_H (zz_w g B0 7 ((g B0 7) + (fn_82 (((g (B1 + 3) b3.toNatClampNeg) - (g B0 7)) * b6) b5)))) v h := r
  exact rn_ret 1 rfl r
noncomputable def fn_80_54 (g : aa_G) (B0 : Nat) (B1 : Nat) (b2 : Int32) (b3 : Int32) (b4 : Int32) (s0 : Int32) (S1 : Nat) : aa_G := if (g B0 5) ≠ (-1) then g else if (fn_81 ((g S1 s0.toNatClampNeg) - (g (B1 + 1) b2.toNatClampNeg)) 360) ≤ 0 then g else fn_80_130 (zz_w g B0 6 ((g B0 6) + (fn_82 (((g (B1 + 2) b3.toNatClampNeg) - (g B0 6)) * (fn_81 (b4 - (g (B1 + 1) b2.toNatClampNeg)) 360)) (fn_81 ((g S1 s0.toNatClampNeg) - (g (B1 + 1) b2.toNatClampNeg)) 360)))) B0 B1 b3 (fn_81 ((g S1 s0.toNatClampNeg) - (g (B1 + 1) b2.toNatClampNeg)) 360) (fn_81 (b4 - (g (B1 + 1) b2.toNatClampNeg)) 360)
theorem dn_80_54 {v : Option Value} {h : zz_H} {n : Nat} {g : aa_G} {B0 : Nat} {B1 : Nat} {b2 : Int32} {b3 : Int32} {b4 : Int32} {s0 : Int32} {S1 : Nat} (hB0 : sp_ok B0) (hB1 : ct_tw B1) (hS1 : ar_12 S1) (x5 x6 : Option Value) (jx5 : rn_jk x5) (jx6 : rn_jk x6) (r : rn_s n 80 (54, [some (.ref B0), some (.ref B1), some (.int b2), some (.int b3), some (.int b4), x5, x6], [.int s0, .ref S1], aa_H g) v h) : ig_s v h (fn_80_54 g B0 B1 b2 b3 b4 s0 S1) := by
  unfold fn_80_54
  obtain ⟨hb37, n36, ln36, r⟩ := rn_ial rfl hS1.1 hS1.2 r
  have r : rn_s _ 80 (55, [some (.ref B0), some (.ref B1), some (.int b2), some (.int b3), some (.int b4), x5, x6], [.int (g S1 s0.toNatClampNeg)], aa_H g) v h := r
  obtain ⟨n38, ln38, r⟩ := rn_steps 0 (56, [some (.ref B0), some (.ref B1), some (.int b2), some (.int b3), some (.int b4), x5, x6], [.ref B1, .int (g S1 s0.toNatClampNeg)], aa_H g) rfl r
  obtain ⟨n39, ln39, r⟩ := rn_gr rfl (tw_hk hB1) (tw_hl hB1) rfl r
  have r : rn_s _ 80 (59, [some (.ref B0), some (.ref B1), some (.int b2), some (.int b3), some (.int b4), x5, x6], [.ref (B1 + 1), .int (g S1 s0.toNatClampNeg)], aa_H g) v h := r
  obtain ⟨n40, ln40, r⟩ := rn_steps 0 (60, [some (.ref B0), some (.ref B1), some (.int b2), some (.int b3), some (.int b4), x5, x6], [.int b2, .ref (B1 + 1), .int (g S1 s0.toNatClampNeg)], aa_H g) rfl r
  obtain ⟨hb42, n41, ln41, r⟩ := rn_ial rfl (tw_a1 hB1).1 (tw_a1 hB1).2 r
  have r : rn_s _ 80 (61, [some (.ref B0), some (.ref B1), some (.int b2), some (.int b3), some (.int b4), x5, x6], [.int (g (B1 + 1) b2.toNatClampNeg), .int (g S1 s0.toNatClampNeg)], aa_H g) v h := r
  obtain ⟨n43, ln43, r⟩ := rn_steps 1 (65, [some (.ref B0), some (.ref B1), some (.int b2), some (.int b3), some (.int b4), x5, x6], [.int 360, .int ((g S1 s0.toNatClampNeg) - (g (B1 + 1) b2.toNatClampNeg))], aa_H g) rfl r
  obtain ⟨_, n44, v1, h1, -, ln44, rc, r⟩ := rn_call (m2 := 81) (as := [.int ((g S1 s0.toNatClampNeg) - (g (B1 + 1) b2.toNatClampNeg)), .int 360]) (rest := []) rfl rfl r
  obtain ⟨rfl, rfl⟩ := dn_81 rc
  have r : rn_s _ 80 (68, [some (.ref B0), some (.ref B1), some (.int b2), some (.int b3), some (.int b4), x5, x6], [.int (fn_81 ((g S1 s0.toNatClampNeg) - (g (B1 + 1) b2.toNatClampNeg)) 360)], aa_H g) v h := r
  obtain ⟨n46, ln46, r⟩ := rn_steps 1 (71, [some (.ref B0), some (.ref B1), some (.int b2), some (.int b3), some (.int b4), some (.int (fn_81 ((g S1 s0.toNatClampNeg) - (g (B1 + 1) b2.toNatClampNeg)) 360)), x6], [.ref B0], aa_H g) rfl r
  obtain ⟨n47, ln47, r⟩ := rn_gf rfl (sp_hk hB0) (sp_hl hB0) rfl r
  have r : rn_s _ 80 (74, [some (.ref B0), some (.ref B1), some (.int b2), some (.int b3), some (.int b4), some (.int (fn_81 ((g S1 s0.toNatClampNeg) - (g (B1 + 1) b2.toNatClampNeg)) 360)), x6], [.int (g B0 5)], aa_H g) v h := r
  obtain ⟨n48, ln48, r⟩ := rn_steps 0 (75, [some (.ref B0), some (.ref B1), some (.int b2), some (.int b3), some (.int b4), some (.int (fn_81 ((g S1 s0.toNatClampNeg) - (g (B1 + 1) b2.toNatClampNeg)) 360)), x6], [.int (-1), .int (g B0 5)], aa_H g) rfl r
  refine rn_ic (ig_s v h) rfl decide_eq_true_iff.symm r (fun c49 l50n l50 r => ?_) (fun c49 l50n l50 r => ?_)
  · exact rn_ret 1 rfl r
  · obtain ⟨n51, ln51, r⟩ := rn_steps 0 (80, [some (.ref B0), some (.ref B1), some (.int b2), some (.int b3), some (.int b4), some (.int (fn_81 ((g S1 s0.toNatClampNeg) - (g (B1 + 1) b2.toNatClampNeg)) 360)), x6], [.int (fn_81 ((g S1 s0.toNatClampNeg) - (g (B1 + 1) b2.toNatClampNeg)) 360)], aa_H g) rfl r
    refine rn_if (ig_s v h) rfl decide_eq_true_iff.symm r (fun c52 l53n l53 r => ?_) (fun c52 l53n l53 r => ?_)
    · exact rn_ret 1 rfl r
    · obtain ⟨n54, ln54, r⟩ := rn_steps 1 (86, [some (.ref B0), some (.ref B1), some (.int b2), some (.int b3), some (.int b4), some (.int (fn_81 ((g S1 s0.toNatClampNeg) - (g (B1 + 1) b2.toNatClampNeg)) 360)), x6], [.ref B1, .int b4], aa_H g) rfl r
      obtain ⟨n55, ln55, r⟩ := rn_gr rfl (tw_hk hB1) (tw_hl hB1) rfl r
      have r : rn_s _ 80 (89, [some (.ref B0), some (.ref B1), some (.int b2), some (.int b3), some (.int b4), some (.int (fn_81 ((g S1 s0.toNatClampNeg) - (g (B1 + 1) b2.toNatClampNeg)) 360)), x6], [.ref (B1 + 1), .int b4], aa_H g) v h := r
      obtain ⟨n56, ln56, r⟩ := rn_steps 0 (90, [some (.ref B0), some (.ref B1), some (.int b2), some (.int b3), some (.int b4), some (.int (fn_81 ((g S1 s0.toNatClampNeg) - (g (B1 + 1) b2.toNatClampNeg)) 360)), x6], [.int b2, .ref (B1 + 1), .int b4], aa_H g) rfl r
      obtain ⟨hb58, n57, ln57, r⟩ := rn_ial rfl (tw_a1 hB1).1 (tw_a1 hB1).2 r
      have r : rn_s _ 80 (91, [some (.ref B0), some (.ref B1), some (.int b2), some (.int b3), some (.int b4), some (.int (fn_81 ((g S1 s0.toNatClampNeg) - (g (B1 + 1) b2.toNatClampNeg)) 360)), x6], [.int (g (B1 + 1) b2.toNatClampNeg), .int b4], aa_H g) v h := r
      obtain ⟨n59, ln59, r⟩ := rn_steps 1 (95, [some (.ref B0), some (.ref B1), some (.int b2), some (.int b3), some (.int b4), some (.int (fn_81 ((g S1 s0.toNatClampNeg) - (g (B1 + 1) b2.toNatClampNeg)) 360)), x6], [.int 360, .int (b4 - (g (B1 + 1) b2.toNatClampNeg))], aa_H g) rfl r
      obtain ⟨_, n60, v1, h1, -, ln60, rc, r⟩ := rn_call (m2 := 81) (as := [.int (b4 - (g (B1 + 1) b2.toNatClampNeg)), .int 360]) (rest := []) rfl rfl r
      obtain ⟨rfl, rfl⟩ := dn_81 rc
      have r : rn_s _ 80 (98, [some (.ref B0), some (.ref B1), some (.int b2), some (.int b3), some (.int b4), some (.int (fn_81 ((g S1 s0.toNatClampNeg) - (g (B1 + 1) b2.toNatClampNeg)) 360)), x6], [.int (fn_81 (b4 - (g (B1 + 1) b2.toNatClampNeg)) 360)], aa_H g) v h := r
      obtain ⟨n62, ln62, r⟩ := rn_steps 2 (102, [some (.ref B0), some (.ref B1), some (.int b2), some (.int b3), some (.int b4), some (.int (fn_81 ((g S1 s0.toNatClampNeg) - (g (B1 + 1) b2.toNatClampNeg)) 360)), some (.int (fn_81 (b4 - (g (B1 + 1) b2.toNatClampNeg)) 360))], [.ref B0, .ref B0], aa_H g) rfl r
      obtain ⟨n63, ln63, r⟩ := rn_gf rfl (sp_hk hB0) (sp_hl hB0) rfl r
      have r : rn_s _ 80 (105, [some (.ref B0), some (.ref B1), some (.int b2), some (.int b3), some (.int b4), some (.int (fn_81 ((g S1 s0.toNatClampNeg) - (g (B1 + 1) b2.toNatClampNeg)) 360)), some (.int (fn_81 (b4 - (g (B1 + 1) b2.toNatClampNeg)) 360))], [.int (g B0 6), .ref B0], aa_H g) v h := r
      obtain ⟨n64, ln64, r⟩ := rn_steps 0 (106, [some (.ref B0), some (.ref B1), some (.int b2), some (.int b3), some (.int b4), some (.int (fn_81 ((g S1 s0.toNatClampNeg) - (g (B1 + 1) b2.toNatClampNeg)) 360)), some (.int (fn_81 (b4 - (g (B1 + 1) b2.toNatClampNeg)) 360))], [.ref B1, .int (g B0 6), .ref B0], aa_H g) rfl r
      obtain ⟨n65, ln65, r⟩ := rn_gr rfl (tw_hk hB1) (tw_hl hB1) rfl r
      have r : rn_s _ 80 (109, [some (.ref B0), some (.ref B1), some (.int b2), some (.int b3), some (.int b4), some (.int (fn_81 ((g S1 s0.toNatClampNeg) - (g (B1 + 1) b2.toNatClampNeg)) 360)), some (.int (fn_81 (b4 - (g (B1 + 1) b2.toNatClampNeg)) 360))], [.ref (B1 + 2), .int (g B0 6), .ref B0], aa_H g) v h := r
      obtain ⟨n66, ln66, r⟩ := rn_steps 0 (110, [some (.ref B0), some (.ref B1), some (.int b2), some (.int b3), some (.int b4), some (.int (fn_81 ((g S1 s0.toNatClampNeg) - (g (B1 + 1) b2.toNatClampNeg)) 360)), some (.int (fn_81 (b4 - (g (B1 + 1) b2.toNatClampNeg)) 360))], [.int b3, .ref (B1 + 2), .int (g B0 6), .ref B0], aa_H g) rfl r
      obtain ⟨hb68, n67, ln67, r⟩ := rn_ial rfl (tw_a2 hB1).1 (tw_a2 hB1).2 r
      have r : rn_s _ 80 (111, [some (.ref B0), some (.ref B1), some (.int b2), some (.int b3), some (.int b4), some (.int (fn_81 ((g S1 s0.toNatClampNeg) - (g (B1 + 1) b2.toNatClampNeg)) 360)), some (.int (fn_81 (b4 - (g (B1 + 1) b2.toNatClampNeg)) 360))], [.int (g (B1 + 2) b3.toNatClampNeg), .int (g B0 6), .ref B0], aa_H g) v h := r
      obtain ⟨n69, ln69, r⟩ := rn_steps 0 (112, [some (.ref B0), some (.ref B1), some (.int b2), some (.int b3), some (.int b4), some (.int (fn_81 ((g S1 s0.toNatClampNeg) - (g (B1 + 1) b2.toNatClampNeg)) 360)), some (.int (fn_81 (b4 - (g (B1 + 1) b2.toNatClampNeg)) 360))], [.ref B0, .int (g (B1 + 2) b3.toNatClampNeg), .int (g B0 6), .ref B0], aa_H g) rfl r
      obtain ⟨n70, ln70, r⟩ := rn_gf rfl (sp_hk hB0) (sp_hl hB0) rfl r
      have r : rn_s _ 80 (115, [some (.ref B0), some (.ref B1), some (.int b2), some (.int b3), some (.int b4), some (.int (fn_81 ((g S1 s0.toNatClampNeg) - (g (B1 + 1) b2.toNatClampNeg)) 360)), some (.int (fn_81 (b4 - (g (B1 + 1) b2.toNatClampNeg)) 360))], [.int (g B0 6), .int (g (B1 + 2) b3.toNatClampNeg), .int (g B0 6), .ref B0], aa_H g) v h := r
      obtain ⟨n71, ln71, r⟩ := rn_steps 3 (121, [some (.ref B0), some (.ref B1), some (.int b2), some (.int b3), some (.int b4), some (.int (fn_81 ((g S1 s0.toNatClampNeg) - (g (B1 + 1) b2.toNatClampNeg)) 360)), some (.int (fn_81 (b4 - (g (B1 + 1) b2.toNatClampNeg)) 360))], [.int (fn_81 ((g S1 s0.toNatClampNeg) - (g (B1 + 1) b2.toNatClampNeg)) 360), .int (((g (B1 + 2) b3.toNatClampNeg) - (g B0 6)) * (fn_81 (b4 - (g (B1 + 1) b2.toNatClampNeg)) 360)), .int (g B0 6), .ref B0], aa_H g) rfl r
      obtain ⟨_, n72, v1, h1, -, ln72, rc, r⟩ := rn_call (m2 := 82) (as := [.int (((g (B1 + 2) b3.toNatClampNeg) - (g B0 6)) * (fn_81 (b4 - (g (B1 + 1) b2.toNatClampNeg)) 360)), .int (fn_81 ((g S1 s0.toNatClampNeg) - (g (B1 + 1) b2.toNatClampNeg)) 360)]) (rest := [.int (g B0 6), .ref B0]) rfl rfl r
      obtain ⟨rfl, rfl⟩ := dn_82 rc
      have r : rn_s _ 80 (124, [some (.ref B0), some (.ref B1), some (.int b2), some (.int b3), some (.int b4), some (.int (fn_81 ((g S1 s0.toNatClampNeg) - (g (B1 + 1) b2.toNatClampNeg)) 360)), some (.int (fn_81 (b4 - (g (B1 + 1) b2.toNatClampNeg)) 360))], [.int (fn_82 (((g (B1 + 2) b3.toNatClampNeg) - (g B0 6)) * (fn_81 (b4 - (g (B1 + 1) b2.toNatClampNeg)) 360)) (fn_81 ((g S1 s0.toNatClampNeg) - (g (B1 + 1) b2.toNatClampNeg)) 360)), .int (g B0 6), .ref B0], aa_H g) v h := r
      obtain ⟨n74, ln74, r⟩ := rn_steps 0 (125, [some (.ref B0), some (.ref B1), some (.int b2), some (.int b3), some (.int b4), some (.int (fn_81 ((g S1 s0.toNatClampNeg) - (g (B1 + 1) b2.toNatClampNeg)) 360)), some (.int (fn_81 (b4 - (g (B1 + 1) b2.toNatClampNeg)) 360))], [.int ((g B0 6) + (fn_82 (((g (B1 + 2) b3.toNatClampNeg) - (g B0 6)) * (fn_81 (b4 - (g (B1 + 1) b2.toNatClampNeg)) 360)) (fn_81 ((g S1 s0.toNatClampNeg) - (g (B1 + 1) b2.toNatClampNeg)) 360))), .ref B0], aa_H g) rfl r
      obtain ⟨n75, ln75, r⟩ := rn_pf rfl (sp_hk hB0) (sp_hl hB0) rfl r
      have r : rn_s _ 80 (128, [some (.ref B0), some (.ref B1), some (.int b2), some (.int b3), some (.int b4), some (.int (fn_81 ((g S1 s0.toNatClampNeg) - (g (B1 + 1) b2.toNatClampNeg)) 360)), some (.int (fn_81 (b4 - (g (B1 + 1) b2.toNatClampNeg)) 360))], [], aa_H (zz_w g B0 6 ((g B0 6) + (fn_82 (((g (B1 + 2) b3.toNatClampNeg) - (g B0 6)) * (fn_81 (b4 - (g (B1 + 1) b2.toNatClampNeg)) 360)) (fn_81 ((g S1 s0.toNatClampNeg) - (g (B1 + 1) b2.toNatClampNeg)) 360))))) v h := r
      obtain ⟨n76, ln76, r⟩ := rn_steps 1 (130, [some (.ref B0), some (.ref B1), some (.int b2), some (.int b3), some (.int b4), some (.int (fn_81 ((g S1 s0.toNatClampNeg) - (g (B1 + 1) b2.toNatClampNeg)) 360)), some (.int (fn_81 (b4 - (g (B1 + 1) b2.toNatClampNeg)) 360))], [.ref B0, .ref B0], aa_H (zz_w g B0 6 ((g B0 6) + (fn_82 (((g (B1 + 2) b3.toNatClampNeg) - (g B0 6)) * (fn_81 (b4 - (g (B1 + 1) b2.toNatClampNeg)) 360)) (fn_81 ((g S1 s0.toNatClampNeg) - (g (B1 + 1) b2.toNatClampNeg)) 360))))) rfl r
      exact dn_80_130 hB0 hB1 (some (.int b2)) (some (.int b4)) rn_ji rn_ji r
noncomputable def fn_80_45 (g : aa_G) (B0 : Nat) (B1 : Nat) (b2 : Int32) (b3 : Int32) (b4 : Int32) (s0 : Int32) (S1 : Nat) : aa_G := fn_80_54 (zz_w g B0 7 (g S1 s0.toNatClampNeg)) B0 B1 b2 b3 b4 b3 (B1 + 1)
theorem dn_80_45 {v : Option Value} {h : zz_H} {n : Nat} {g : aa_G} {B0 : Nat} {B1 : Nat} {b2 : Int32} {b3 : Int32} {b4 : Int32} {s0 : Int32} {S1 : Nat} (hB0 : sp_ok B0) (hB1 : ct_tw B1) (hS1 : ar_12 S1) (x5 x6 : Option Value) (jx5 : rn_jk x5) (jx6 : rn_jk x6) (r : rn_s n 80 (45, [some (.ref B0), some (.ref B1), some (.int b2), some (.int b3), some (.int b4), x5, x6], [.int s0, .ref S1, .ref B0], aa_H g) v h) : ig_s v h (fn_80_45 g B0 B1 b2 b3 b4 s0 S1) := by
  unfold fn_80_45
  obtain ⟨hb31, n30, ln30, r⟩ := rn_ial rfl hS1.1 hS1.2 r
  have r : rn_s _ 80 (46, [some (.ref B0), some (.ref B1), some (.int b2), some (.int b3), some (.int b4), x5, x6], [.int (g S1 s0.toNatClampNeg), .ref B0], aa_H g) v h := r
  obtain ⟨n32, ln32, r⟩ := rn_pf rfl (sp_hk hB0) (sp_hl hB0) rfl r
  have r : rn_s _ 80 (49, [some (.ref B0), some (.ref B1), some (.int b2), some (.int b3), some (.int b4), x5, x6], [], aa_H (zz_w g B0 7 (g S1 s0.toNatClampNeg))) v h := r
  obtain ⟨n33, ln33, r⟩ := rn_steps 0 (50, [some (.ref B0), some (.ref B1), some (.int b2), some (.int b3), some (.int b4), x5, x6], [.ref B1], aa_H (zz_w g B0 7 (g S1 s0.toNatClampNeg))) rfl r
  obtain ⟨n34, ln34, r⟩ := rn_gr rfl (tw_hk hB1) (tw_hl hB1) rfl r
  have r : rn_s _ 80 (53, [some (.ref B0), some (.ref B1), some (.int b2), some (.int b3), some (.int b4), x5, x6], [.ref (B1 + 1)], aa_H (zz_w g B0 7 (g S1 s0.toNatClampNeg))) v h := r
  obtain ⟨n35, ln35, r⟩ := rn_steps 0 (54, [some (.ref B0), some (.ref B1), some (.int b2), some (.int b3), some (.int b4), x5, x6], [.int b3, .ref (B1 + 1)], aa_H (zz_w g B0 7 (g S1 s0.toNatClampNeg))) rfl r
  exact dn_80_54 hB0 hB1 (tw_a1 hB1) x5 x6 jx5 jx6 r
noncomputable def fn_80_35 (g : aa_G) (B0 : Nat) (B1 : Nat) (b2 : Int32) (b3 : Int32) (b4 : Int32) (s0 : Int32) (S1 : Nat) : aa_G := fn_80_45 (zz_w g B0 6 (g S1 s0.toNatClampNeg)) B0 B1 b2 b3 b4 b2 (B1 + 3)
theorem dn_80_35 {v : Option Value} {h : zz_H} {n : Nat} {g : aa_G} {B0 : Nat} {B1 : Nat} {b2 : Int32} {b3 : Int32} {b4 : Int32} {s0 : Int32} {S1 : Nat} (hB0 : sp_ok B0) (hB1 : ct_tw B1) (hS1 : ar_12 S1) (x5 x6 : Option Value) (jx5 : rn_jk x5) (jx6 : rn_jk x6) (r : rn_s n 80 (35, [some (.ref B0), some (.ref B1), some (.int b2), some (.int b3), some (.int b4), x5, x6], [.int s0, .ref S1, .ref B0], aa_H g) v h) : ig_s v h (fn_80_35 g B0 B1 b2 b3 b4 s0 S1) := by
  unfold fn_80_35
  obtain ⟨hb25, n24, ln24, r⟩ := rn_ial rfl hS1.1 hS1.2 r
  have r : rn_s _ 80 (36, [some (.ref B0), some (.ref B1), some (.int b2), some (.int b3), some (.int b4), x5, x6], [.int (g S1 s0.toNatClampNeg), .ref B0], aa_H g) v h := r
  obtain ⟨n26, ln26, r⟩ := rn_pf rfl (sp_hk hB0) (sp_hl hB0) rfl r
  have r : rn_s _ 80 (39, [some (.ref B0), some (.ref B1), some (.int b2), some (.int b3), some (.int b4), x5, x6], [], aa_H (zz_w g B0 6 (g S1 s0.toNatClampNeg))) v h := r
  obtain ⟨n27, ln27, r⟩ := rn_steps 1 (41, [some (.ref B0), some (.ref B1), some (.int b2), some (.int b3), some (.int b4), x5, x6], [.ref B1, .ref B0], aa_H (zz_w g B0 6 (g S1 s0.toNatClampNeg))) rfl r
  obtain ⟨n28, ln28, r⟩ := rn_gr rfl (tw_hk hB1) (tw_hl hB1) rfl r
  have r : rn_s _ 80 (44, [some (.ref B0), some (.ref B1), some (.int b2), some (.int b3), some (.int b4), x5, x6], [.ref (B1 + 3), .ref B0], aa_H (zz_w g B0 6 (g S1 s0.toNatClampNeg))) v h := r
  obtain ⟨n29, ln29, r⟩ := rn_steps 0 (45, [some (.ref B0), some (.ref B1), some (.int b2), some (.int b3), some (.int b4), x5, x6], [.int b2, .ref (B1 + 3), .ref B0], aa_H (zz_w g B0 6 (g S1 s0.toNatClampNeg))) rfl r
  exact dn_80_45 hB0 hB1 (tw_a3 hB1) x5 x6 jx5 jx6 r
noncomputable def fn_80_26 (g : aa_G) (B0 : Nat) (B1 : Nat) (b2 : Int32) (b3 : Int32) (b4 : Int32) (s0 : Int32) : aa_G := fn_80_35 (zz_w g B0 5 s0) B0 B1 b2 b3 b4 b2 (B1 + 2)
theorem dn_80_26 {v : Option Value} {h : zz_H} {n : Nat} {g : aa_G} {B0 : Nat} {B1 : Nat} {b2 : Int32} {b3 : Int32} {b4 : Int32} {s0 : Int32} (hB0 : sp_ok B0) (hB1 : ct_tw B1) (x5 x6 : Option Value) (jx5 : rn_jk x5) (jx6 : rn_jk x6) (r : rn_s n 80 (26, [some (.ref B0), some (.ref B1), some (.int b2), some (.int b3), some (.int b4), x5, x6], [.int s0, .ref B0], aa_H g) v h) : ig_s v h (fn_80_26 g B0 B1 b2 b3 b4 s0) := by
  unfold fn_80_26
  obtain ⟨n20, ln20, r⟩ := rn_pf rfl (sp_hk hB0) (sp_hl hB0) rfl r
  have r : rn_s _ 80 (29, [some (.ref B0), some (.ref B1), some (.int b2), some (.int b3), some (.int b4), x5, x6], [], aa_H (zz_w g B0 5 s0)) v h := r
  obtain ⟨n21, ln21, r⟩ := rn_steps 1 (31, [some (.ref B0), some (.ref B1), some (.int b2), some (.int b3), some (.int b4), x5, x6], [.ref B1, .ref B0], aa_H (zz_w g B0 5 s0)) rfl r
  obtain ⟨n22, ln22, r⟩ := rn_gr rfl (tw_hk hB1) (tw_hl hB1) rfl r
  have r : rn_s _ 80 (34, [some (.ref B0), some (.ref B1), some (.int b2), some (.int b3), some (.int b4), x5, x6], [.ref (B1 + 2), .ref B0], aa_H (zz_w g B0 5 s0)) v h := r
  obtain ⟨n23, ln23, r⟩ := rn_steps 0 (35, [some (.ref B0), some (.ref B1), some (.int b2), some (.int b3), some (.int b4), x5, x6], [.int b2, .ref (B1 + 2), .ref B0], aa_H (zz_w g B0 5 s0)) rfl r
  exact dn_80_35 hB0 hB1 (tw_a2 hB1) x5 x6 jx5 jx6 r
noncomputable def fn_80 (g : aa_G) (P : Nat) (T : Nat) (a2 : Int32) (a3 : Int32) (a4 : Int32) : aa_G := if (g (T + 4) a2.toNatClampNeg) = (-1) then fn_80_26 g P T a2 a3 a4 (g (T + 4) a3.toNatClampNeg) else fn_80_26 g P T a2 a3 a4 (g (T + 4) a2.toNatClampNeg)
theorem dn_80 {v : Option Value} {h : zz_H} {n : Nat} {g : aa_G} {P : Nat} {T : Nat} {a2 : Int32} {a3 : Int32} {a4 : Int32} (hP : sp_ok P) (hT : ct_tw T) (r : rn_s n 80 (0, zz_in [.ref P, .ref T, .int a2, .int a3, .int a4] (zz_nl 80), [], aa_H g) v h) : ig_s v h (fn_80 g P T a2 a3 a4) := by
  have r : rn_s n 80 (0, [some (.ref P), some (.ref T), some (.int a2), some (.int a3), some (.int a4), none, none], [], aa_H g) v h := r
  unfold fn_80
  obtain ⟨n1, ln1, r⟩ := rn_steps 1 (2, [some (.ref P), some (.ref T), some (.int a2), some (.int a3), some (.int a4), none, none], [.ref T, .ref P], aa_H g) rfl r
  obtain ⟨n2, ln2, r⟩ := rn_gr rfl (tw_hk hT) (tw_hl hT) rfl r
  have r : rn_s _ 80 (5, [some (.ref P), some (.ref T), some (.int a2), some (.int a3), some (.int a4), none, none], [.ref (T + 4), .ref P], aa_H g) v h := r
  obtain ⟨n3, ln3, r⟩ := rn_steps 0 (6, [some (.ref P), some (.ref T), some (.int a2), some (.int a3), some (.int a4), none, none], [.int a2, .ref (T + 4), .ref P], aa_H g) rfl r
  obtain ⟨hb5, n4, ln4, r⟩ := rn_ial rfl (tw_a4 hT).1 (tw_a4 hT).2 r
  have r : rn_s _ 80 (7, [some (.ref P), some (.ref T), some (.int a2), some (.int a3), some (.int a4), none, none], [.int (g (T + 4) a2.toNatClampNeg), .ref P], aa_H g) v h := r
  obtain ⟨n6, ln6, r⟩ := rn_steps 0 (8, [some (.ref P), some (.ref T), some (.int a2), some (.int a3), some (.int a4), none, none], [.int (-1), .int (g (T + 4) a2.toNatClampNeg), .ref P], aa_H g) rfl r
  refine rn_ic (ig_s v h) rfl decide_eq_true_iff.symm r (fun c7 l8n l8 r => ?_) (fun c7 l8n l8 r => ?_)
  · obtain ⟨n9, ln9, r⟩ := rn_steps 0 (21, [some (.ref P), some (.ref T), some (.int a2), some (.int a3), some (.int a4), none, none], [.ref T, .ref P], aa_H g) rfl r
    obtain ⟨n10, ln10, r⟩ := rn_gr rfl (tw_hk hT) (tw_hl hT) rfl r
    have r : rn_s _ 80 (24, [some (.ref P), some (.ref T), some (.int a2), some (.int a3), some (.int a4), none, none], [.ref (T + 4), .ref P], aa_H g) v h := r
    obtain ⟨n11, ln11, r⟩ := rn_steps 0 (25, [some (.ref P), some (.ref T), some (.int a2), some (.int a3), some (.int a4), none, none], [.int a3, .ref (T + 4), .ref P], aa_H g) rfl r
    obtain ⟨hb13, n12, ln12, r⟩ := rn_ial rfl (tw_a4 hT).1 (tw_a4 hT).2 r
    have r : rn_s _ 80 (26, [some (.ref P), some (.ref T), some (.int a2), some (.int a3), some (.int a4), none, none], [.int (g (T + 4) a3.toNatClampNeg), .ref P], aa_H g) v h := r
    exact dn_80_26 hP hT none none rn_jn rn_jn r
  · obtain ⟨n14, ln14, r⟩ := rn_steps 0 (12, [some (.ref P), some (.ref T), some (.int a2), some (.int a3), some (.int a4), none, none], [.ref T, .ref P], aa_H g) rfl r
    obtain ⟨n15, ln15, r⟩ := rn_gr rfl (tw_hk hT) (tw_hl hT) rfl r
    have r : rn_s _ 80 (15, [some (.ref P), some (.ref T), some (.int a2), some (.int a3), some (.int a4), none, none], [.ref (T + 4), .ref P], aa_H g) v h := r
    obtain ⟨n16, ln16, r⟩ := rn_steps 0 (16, [some (.ref P), some (.ref T), some (.int a2), some (.int a3), some (.int a4), none, none], [.int a2, .ref (T + 4), .ref P], aa_H g) rfl r
    obtain ⟨hb18, n17, ln17, r⟩ := rn_ial rfl (tw_a4 hT).1 (tw_a4 hT).2 r
    have r : rn_s _ 80 (17, [some (.ref P), some (.ref T), some (.int a2), some (.int a3), some (.int a4), none, none], [.int (g (T + 4) a2.toNatClampNeg), .ref P], aa_H g) v h := r
    obtain ⟨n19, ln19, r⟩ := rn_steps 0 (26, [some (.ref P), some (.ref T), some (.int a2), some (.int a3), some (.int a4), none, none], [.int (g (T + 4) a2.toNatClampNeg), .ref P], aa_H g) rfl r
    exact dn_80_26 hP hT none none rn_jn rn_jn r
-- 14: UnequalHours within
noncomputable def fn_14 (a0 : Int32) (a1 : Int32) (a2 : Int32) : Int32 := if a0 < a1 then 0 else if a2 < a0 then 0 else 1
theorem dn_14 {v : Option Value} {h : zz_H} {n : Nat} {g : aa_G} {a0 : Int32} {a1 : Int32} {a2 : Int32}  (r : rn_s n 14 (0, zz_in [.int a0, .int a1, .int a2] (zz_nl 14), [], aa_H g) v h) : ir_s g v h (fn_14 a0 a1 a2) := by
  have r : rn_s n 14 (0, [some (.int a0), some (.int a1), some (.int a2)], [], aa_H g) v h := r
  unfold fn_14
  obtain ⟨n1, ln1, r⟩ := rn_steps 1 (2, [some (.int a0), some (.int a1), some (.int a2)], [.int a1, .int a0], aa_H g) rfl r
  refine rn_ic (ir_s g v h) rfl decide_eq_true_iff.symm r (fun c2 l3n l3 r => ?_) (fun c2 l3n l3 r => ?_)
  · obtain ⟨n4, ln4, r⟩ := rn_steps 0 (15, [some (.int a0), some (.int a1), some (.int a2)], [.int 0], aa_H g) rfl r
    exact rn_ire rfl r
  · obtain ⟨n5, ln5, r⟩ := rn_steps 1 (7, [some (.int a0), some (.int a1), some (.int a2)], [.int a2, .int a0], aa_H g) rfl r
    refine rn_ic (ir_s g v h) rfl decide_eq_true_iff.symm r (fun c6 l7n l7 r => ?_) (fun c6 l7n l7 r => ?_)
    · obtain ⟨n8, ln8, r⟩ := rn_steps 0 (15, [some (.int a0), some (.int a1), some (.int a2)], [.int 0], aa_H g) rfl r
      exact rn_ire rfl r
    · obtain ⟨n9, ln9, r⟩ := rn_steps 1 (15, [some (.int a0), some (.int a1), some (.int a2)], [.int 1], aa_H g) rfl r
      exact rn_ire rfl r
-- 79: UnequalHours Span readTable
noncomputable def fn_79_99 (g : aa_G) (b2 : Int32) (s0 : Int32) (s1 : Int32) (S2 : Nat) (S3 : Nat) : aa_G := fn_80 g S3 S2 s1 s0 b2
theorem dn_79_99 {v : Option Value} {h : zz_H} {n : Nat} {g : aa_G} {b2 : Int32} {s0 : Int32} {s1 : Int32} {S2 : Nat} {S3 : Nat} (hS2 : ct_tw S2) (hS3 : sp_ok S3) (x0 x1 x3 x4 : Option Value) (jx0 : rn_jk x0) (jx1 : rn_jk x1) (jx3 : rn_jk x3) (jx4 : rn_jk x4) (r : rn_s n 79 (99, [x0, x1, some (.int b2), x3, x4], [.int s0, .int s1, .ref S2, .ref S3], aa_H g) v h) : ig_s v h (fn_79_99 g b2 s0 s1 S2 S3) := by
  unfold fn_79_99
  obtain ⟨n44, ln44, r⟩ := rn_steps 0 (100, [x0, x1, some (.int b2), x3, x4], [.int b2, .int s0, .int s1, .ref S2, .ref S3], aa_H g) rfl r
  obtain ⟨_, n45, v1, h1, -, ln45, rc, r⟩ := rn_cv (k := S3) (as := [.ref S2, .int s1, .int s0, .int b2]) (rest := []) rfl (sp_hk hS3) (sp_hl hS3) rfl rfl r
  obtain ⟨rfl, rfl⟩ := dn_80 hS3 hS2 rc
  have r : rn_s _ 79 (103, [x0, x1, some (.int b2), x3, x4], [], aa_H (fn_80 g S3 S2 s1 s0 b2)) v h := r
  exact rn_ret 1 rfl r
noncomputable def fn_79_78 (g : aa_G) (B0 : Nat) (B1 : Nat) (b2 : Int32) (b3 : Int32) (s0 : Int32) : aa_G := if (g (B1 + 1) b3.toNatClampNeg) ≠ b2 then fn_79_99 g b2 s0 b3 B1 B0 else fn_79_99 g b2 b3 b3 B1 B0
theorem dn_79_78 {v : Option Value} {h : zz_H} {n : Nat} {g : aa_G} {B0 : Nat} {B1 : Nat} {b2 : Int32} {b3 : Int32} {s0 : Int32} (hB0 : sp_ok B0) (hB1 : ct_tw B1) (x4 : Option Value) (jx4 : rn_jk x4) (r : rn_s n 79 (78, [some (.ref B0), some (.ref B1), some (.int b2), some (.int b3), x4], [.int s0], aa_H g) v h) : ig_s v h (fn_79_78 g B0 B1 b2 b3 s0) := by
  unfold fn_79_78
  obtain ⟨n34, ln34, r⟩ := rn_steps 4 (84, [some (.ref B0), some (.ref B1), some (.int b2), some (.int b3), some (.int s0)], [.ref B1, .int b3, .ref B1, .ref B0], aa_H g) rfl r
  obtain ⟨n35, ln35, r⟩ := rn_gr rfl (tw_hk hB1) (tw_hl hB1) rfl r
  have r : rn_s _ 79 (87, [some (.ref B0), some (.ref B1), some (.int b2), some (.int b3), some (.int s0)], [.ref (B1 + 1), .int b3, .ref B1, .ref B0], aa_H g) v h := r
  obtain ⟨n36, ln36, r⟩ := rn_steps 0 (88, [some (.ref B0), some (.ref B1), some (.int b2), some (.int b3), some (.int s0)], [.int b3, .ref (B1 + 1), .int b3, .ref B1, .ref B0], aa_H g) rfl r
  obtain ⟨hb38, n37, ln37, r⟩ := rn_ial rfl (tw_a1 hB1).1 (tw_a1 hB1).2 r
  have r : rn_s _ 79 (89, [some (.ref B0), some (.ref B1), some (.int b2), some (.int b3), some (.int s0)], [.int (g (B1 + 1) b3.toNatClampNeg), .int b3, .ref B1, .ref B0], aa_H g) v h := r
  obtain ⟨n39, ln39, r⟩ := rn_steps 0 (90, [some (.ref B0), some (.ref B1), some (.int b2), some (.int b3), some (.int s0)], [.int b2, .int (g (B1 + 1) b3.toNatClampNeg), .int b3, .ref B1, .ref B0], aa_H g) rfl r
  refine rn_ic (ig_s v h) rfl decide_eq_true_iff.symm r (fun c40 l41n l41 r => ?_) (fun c40 l41n l41 r => ?_)
  · obtain ⟨n42, ln42, r⟩ := rn_steps 0 (99, [some (.ref B0), some (.ref B1), some (.int b2), some (.int b3), some (.int s0)], [.int s0, .int b3, .ref B1, .ref B0], aa_H g) rfl r
    exact dn_79_99 hB1 hB0 (some (.ref B0)) (some (.ref B1)) (some (.int b3)) (some (.int s0)) rn_jr rn_jr rn_ji rn_ji r
  · obtain ⟨n43, ln43, r⟩ := rn_steps 1 (99, [some (.ref B0), some (.ref B1), some (.int b2), some (.int b3), some (.int s0)], [.int b3, .int b3, .ref B1, .ref B0], aa_H g) rfl r
    exact dn_79_99 hB1 hB0 (some (.ref B0)) (some (.ref B1)) (some (.int b3)) (some (.int s0)) rn_jr rn_jr rn_ji rn_ji r
noncomputable def fn_79_51 (g : aa_G) (B0 : Nat) (B1 : Nat) (b2 : Int32) (b3 : Int32) : aa_G := if (fn_14 b3 0 11) = 0 then g else if ((g B1 1) - 1) ≤ b3 then fn_79_78 g B0 B1 b2 b3 0 else fn_79_78 g B0 B1 b2 b3 (b3 + 1)
theorem dn_79_51 {v : Option Value} {h : zz_H} {n : Nat} {g : aa_G} {B0 : Nat} {B1 : Nat} {b2 : Int32} {b3 : Int32} (hB0 : sp_ok B0) (hB1 : ct_tw B1) (x4 : Option Value) (jx4 : rn_jk x4) (r : rn_s n 79 (51, [some (.ref B0), some (.ref B1), some (.int b2), some (.int b3), x4], [], aa_H g) v h) : ig_s v h (fn_79_51 g B0 B1 b2 b3) := by
  unfold fn_79_51
  obtain ⟨n22, ln22, r⟩ := rn_steps 2 (55, [some (.ref B0), some (.ref B1), some (.int b2), some (.int b3), x4], [.int 11, .int 0, .int b3], aa_H g) rfl r
  obtain ⟨_, n23, v1, h1, -, ln23, rc, r⟩ := rn_call (m2 := 14) (as := [.int b3, .int 0, .int 11]) (rest := []) rfl rfl r
  obtain ⟨rfl, rfl⟩ := dn_14 rc
  have r : rn_s _ 79 (58, [some (.ref B0), some (.ref B1), some (.int b2), some (.int b3), x4], [.int (fn_14 b3 0 11)], aa_H g) v h := r
  refine rn_if (ig_s v h) rfl decide_eq_true_iff.symm r (fun c25 l26n l26 r => ?_) (fun c25 l26n l26 r => ?_)
  · exact rn_ret 1 rfl r
  · obtain ⟨n27, ln27, r⟩ := rn_steps 1 (63, [some (.ref B0), some (.ref B1), some (.int b2), some (.int b3), x4], [.ref B1, .int b3], aa_H g) rfl r
    obtain ⟨n28, ln28, r⟩ := rn_gf rfl (tw_hk hB1) (tw_hl hB1) rfl r
    have r : rn_s _ 79 (66, [some (.ref B0), some (.ref B1), some (.int b2), some (.int b3), x4], [.int (g B1 1), .int b3], aa_H g) v h := r
    obtain ⟨n29, ln29, r⟩ := rn_steps 1 (68, [some (.ref B0), some (.ref B1), some (.int b2), some (.int b3), x4], [.int ((g B1 1) - 1), .int b3], aa_H g) rfl r
    refine rn_ic (ig_s v h) rfl decide_eq_true_iff.symm r (fun c30 l31n l31 r => ?_) (fun c30 l31n l31 r => ?_)
    · obtain ⟨n32, ln32, r⟩ := rn_steps 0 (78, [some (.ref B0), some (.ref B1), some (.int b2), some (.int b3), x4], [.int 0], aa_H g) rfl r
      exact dn_79_78 hB0 hB1 x4 jx4 r
    · obtain ⟨n33, ln33, r⟩ := rn_steps 3 (78, [some (.ref B0), some (.ref B1), some (.int b2), some (.int b3), x4], [.int (b3 + 1)], aa_H g) rfl r
      exact dn_79_78 hB0 hB1 x4 jx4 r
noncomputable def fn_79_15b (g : aa_G) (B0 : Nat) (B1 : Nat) (b2 : Int32) (b3 : Int32) (b4 : Int32) : (Int32 × Int32) ⊕ aa_G := if (g B1 1) ≤ b4 then .inr (fn_79_51 g B0 B1 b2 b3) else if 12 ≤ b4 then .inr (fn_79_51 g B0 B1 b2 b3) else if b2 < (g (B1 + 1) b4.toNatClampNeg) then .inr (fn_79_51 g B0 B1 b2 b3) else .inl (b4, b4 + 1)
noncomputable def fn_79_15 (g : aa_G) (B0 : Nat) (B1 : Nat) (b2 : Int32) (b3 : Int32) (b4 : Int32) : aa_G := lp_f g (fun z : (Int32 × Int32) => fn_79_15b g B0 B1 b2 z.1 z.2) (b3, b4)
theorem dn_79_15l {v : Option Value} {h : zz_H} {N : Nat} {g : aa_G} {B0 : Nat} {B1 : Nat} {b2 : Int32} (hB0 : sp_ok B0) (hB1 : ct_tw B1) {d : aa_G} : ∀ (n : Nat), n ≤ N → ∀ (b3 : Int32) (b4 : Int32), rn_s n 79 (15, [some (.ref B0), some (.ref B1), some (.int b2), some (.int b3), some (.int b4)], [], aa_H g) v h → (ig_s v h) (lp_f d (fun z : (Int32 × Int32) => fn_79_15b g B0 B1 b2 z.1 z.2) (b3, b4)) := by
  generalize hf : (fun z : (Int32 × Int32) => fn_79_15b g B0 B1 b2 z.1 z.2) = f
  intro n
  induction n using Nat.strongRecOn with
  | _ n ih =>
    intro hN b3 b4  r
    refine lp_go ?_
    rw [← congrFun hf (b3, b4)]
    show lp_q (ig_s v h) d f (fn_79_15b g B0 B1 b2 b3 b4)
    unfold fn_79_15b
    obtain ⟨n6, ln6, r⟩ := rn_steps 1 (18, [some (.ref B0), some (.ref B1), some (.int b2), some (.int b3), some (.int b4)], [.ref B1, .int b4], aa_H g) rfl r
    obtain ⟨n7, ln7, r⟩ := rn_gf rfl (tw_hk hB1) (tw_hl hB1) rfl r
    have r : rn_s _ 79 (21, [some (.ref B0), some (.ref B1), some (.int b2), some (.int b3), some (.int b4)], [.int (g B1 1), .int b4], aa_H g) v h := r
    refine rn_ic (lp_q (ig_s v h) d f) rfl decide_eq_true_iff.symm r (fun c8 l9n l9 r => ?_) (fun c8 l9n l9 r => ?_)
    · exact dn_79_51 hB0 hB1 (some (.int b4)) rn_ji r
    · obtain ⟨n10, ln10, r⟩ := rn_steps 1 (28, [some (.ref B0), some (.ref B1), some (.int b2), some (.int b3), some (.int b4)], [.int 12, .int b4], aa_H g) rfl r
      refine rn_ic (lp_q (ig_s v h) d f) rfl decide_eq_true_iff.symm r (fun c11 l12n l12 r => ?_) (fun c11 l12n l12 r => ?_)
      · exact dn_79_51 hB0 hB1 (some (.int b4)) rn_ji r
      · obtain ⟨n13, ln13, r⟩ := rn_steps 0 (32, [some (.ref B0), some (.ref B1), some (.int b2), some (.int b3), some (.int b4)], [.ref B1], aa_H g) rfl r
        obtain ⟨n14, ln14, r⟩ := rn_gr rfl (tw_hk hB1) (tw_hl hB1) rfl r
        have r : rn_s _ 79 (35, [some (.ref B0), some (.ref B1), some (.int b2), some (.int b3), some (.int b4)], [.ref (B1 + 1)], aa_H g) v h := r
        obtain ⟨n15, ln15, r⟩ := rn_steps 0 (37, [some (.ref B0), some (.ref B1), some (.int b2), some (.int b3), some (.int b4)], [.int b4, .ref (B1 + 1)], aa_H g) rfl r
        obtain ⟨hb17, n16, ln16, r⟩ := rn_ial rfl (tw_a1 hB1).1 (tw_a1 hB1).2 r
        have r : rn_s _ 79 (38, [some (.ref B0), some (.ref B1), some (.int b2), some (.int b3), some (.int b4)], [.int (g (B1 + 1) b4.toNatClampNeg)], aa_H g) v h := r
        obtain ⟨n18, ln18, r⟩ := rn_steps 0 (39, [some (.ref B0), some (.ref B1), some (.int b2), some (.int b3), some (.int b4)], [.int b2, .int (g (B1 + 1) b4.toNatClampNeg)], aa_H g) rfl r
        refine rn_ic (lp_q (ig_s v h) d f) rfl decide_eq_true_iff.symm r (fun c19 l20n l20 r => ?_) (fun c19 l20n l20 r => ?_)
        · exact dn_79_51 hB0 hB1 (some (.int b4)) rn_ji r
        · obtain ⟨n21, ln21, r⟩ := rn_steps 3 (15, [some (.ref B0), some (.ref B1), some (.int b2), some (.int b4), some (.int (b4 + 1))], [], aa_H g) rfl r
          exact ih _ (by omega) (by omega) b4 (b4 + 1) r
theorem dn_79_15 {v : Option Value} {h : zz_H} {n : Nat} {g : aa_G} {B0 : Nat} {B1 : Nat} {b2 : Int32} {b3 : Int32} {b4 : Int32} (hB0 : sp_ok B0) (hB1 : ct_tw B1) (r : rn_s n 79 (15, [some (.ref B0), some (.ref B1), some (.int b2), some (.int b3), some (.int b4)], [], aa_H g) v h) : (ig_s v h) (fn_79_15 g B0 B1 b2 b3 b4) := dn_79_15l hB0 hB1 n (Nat.le_refl n) b3 b4 r
noncomputable def fn_79_6 (g : aa_G) (B0 : Nat) (B1 : Nat) (b2 : Int32) : aa_G := fn_79_15 g B0 B1 b2 ((g B1 1) - 1) 0
theorem dn_79_6 {v : Option Value} {h : zz_H} {n : Nat} {g : aa_G} {B0 : Nat} {B1 : Nat} {b2 : Int32} (hB0 : sp_ok B0) (hB1 : ct_tw B1) (x3 x4 : Option Value) (jx3 : rn_jk x3) (jx4 : rn_jk x4) (r : rn_s n 79 (6, [some (.ref B0), some (.ref B1), some (.int b2), x3, x4], [.ref B1], aa_H g) v h) : ig_s v h (fn_79_6 g B0 B1 b2) := by
  unfold fn_79_6
  obtain ⟨n4, ln4, r⟩ := rn_gf rfl (tw_hk hB1) (tw_hl hB1) rfl r
  have r : rn_s _ 79 (9, [some (.ref B0), some (.ref B1), some (.int b2), x3, x4], [.int (g B1 1)], aa_H g) v h := r
  obtain ⟨n5, ln5, r⟩ := rn_steps 4 (15, [some (.ref B0), some (.ref B1), some (.int b2), some (.int ((g B1 1) - 1)), some (.int 0)], [], aa_H g) rfl r
  exact dn_79_15 hB0 hB1 r
noncomputable def fn_79 (g : aa_G) (P : Nat) (T : Nat) (a2 : Int32) : aa_G := fn_79_6 (zz_w g P 5 0) P T a2
theorem dn_79 {v : Option Value} {h : zz_H} {n : Nat} {g : aa_G} {P : Nat} {T : Nat} {a2 : Int32} (hP : sp_ok P) (hT : ct_tw T) (r : rn_s n 79 (0, zz_in [.ref P, .ref T, .int a2] (zz_nl 79), [], aa_H g) v h) : ig_s v h (fn_79 g P T a2) := by
  have r : rn_s n 79 (0, [some (.ref P), some (.ref T), some (.int a2), none, none], [], aa_H g) v h := r
  unfold fn_79
  obtain ⟨n1, ln1, r⟩ := rn_steps 1 (2, [some (.ref P), some (.ref T), some (.int a2), none, none], [.int 0, .ref P], aa_H g) rfl r
  obtain ⟨n2, ln2, r⟩ := rn_pf rfl (sp_hk hP) (sp_hl hP) rfl r
  have r : rn_s _ 79 (5, [some (.ref P), some (.ref T), some (.int a2), none, none], [], aa_H (zz_w g P 5 0)) v h := r
  obtain ⟨n3, ln3, r⟩ := rn_steps 0 (6, [some (.ref P), some (.ref T), some (.int a2), none, none], [.ref T], aa_H (zz_w g P 5 0)) rfl r
  exact dn_79_6 hP hT none none rn_jn rn_jn r
-- 77: UnequalHours isDay
noncomputable def fn_77 (a0 : Int32) : Int32 := fn_14 a0 0 35999
theorem dn_77 {v : Option Value} {h : zz_H} {n : Nat} {g : aa_G} {a0 : Int32}  (r : rn_s n 77 (0, zz_in [.int a0] (zz_nl 77), [], aa_H g) v h) : ir_s g v h (fn_77 a0) := by
  have r : rn_s n 77 (0, [some (.int a0)], [], aa_H g) v h := r
  unfold fn_77
  obtain ⟨n1, ln1, r⟩ := rn_steps 2 (5, [some (.int a0)], [.int 35999, .int 0, .int a0], aa_H g) rfl r
  obtain ⟨_, n2, v1, h1, -, ln2, rc, r⟩ := rn_call (m2 := 14) (as := [.int a0, .int 0, .int 35999]) (rest := []) rfl rfl r
  obtain ⟨rfl, rfl⟩ := dn_14 rc
  have r : rn_s _ 77 (8, [some (.int a0)], [.int (fn_14 a0 0 35999)], aa_H g) v h := r
  exact rn_ire rfl r
-- 78: UnequalHours Span look
noncomputable def fn_78_149 (g : aa_G) (B0 : Nat) (b4 : Int32) (b5 : Int32) : aa_G := zz_w (zz_w (zz_w g B0 0 1) B0 3 b4) B0 4 (b5 - b4)
theorem dn_78_149 {v : Option Value} {h : zz_H} {n : Nat} {g : aa_G} {B0 : Nat} {b4 : Int32} {b5 : Int32} (hB0 : sp_ok B0) (x1 x2 x3 : Option Value) (jx1 : rn_jk x1) (jx2 : rn_jk x2) (jx3 : rn_jk x3) (r : rn_s n 78 (149, [some (.ref B0), x1, x2, x3, some (.int b4), some (.int b5)], [], aa_H g) v h) : ig_s v h (fn_78_149 g B0 b4 b5) := by
  unfold fn_78_149
  obtain ⟨n65, ln65, r⟩ := rn_steps 1 (151, [some (.ref B0), x1, x2, x3, some (.int b4), some (.int b5)], [.int 1, .ref B0], aa_H g) rfl r
  obtain ⟨n66, ln66, r⟩ := rn_pf rfl (sp_hk hB0) (sp_hl hB0) rfl r
  have r : rn_s _ 78 (154, [some (.ref B0), x1, x2, x3, some (.int b4), some (.int b5)], [], aa_H (zz_w g B0 0 1)) v h := r
  obtain ⟨n67, ln67, r⟩ := rn_steps 1 (157, [some (.ref B0), x1, x2, x3, some (.int b4), some (.int b5)], [.int b4, .ref B0], aa_H (zz_w g B0 0 1)) rfl r
  obtain ⟨n68, ln68, r⟩ := rn_pf rfl (sp_hk hB0) (sp_hl hB0) rfl r
  have r : rn_s _ 78 (160, [some (.ref B0), x1, x2, x3, some (.int b4), some (.int b5)], [], aa_H (zz_w (zz_w g B0 0 1) B0 3 b4)) v h := r
  obtain ⟨n69, ln69, r⟩ := rn_steps 3 (166, [some (.ref B0), x1, x2, x3, some (.int b4), some (.int b5)], [.int (b5 - b4), .ref B0], aa_H (zz_w (zz_w g B0 0 1) B0 3 b4)) rfl r
  obtain ⟨n70, ln70, r⟩ := rn_pf rfl (sp_hk hB0) (sp_hl hB0) rfl r
  have r : rn_s _ 78 (169, [some (.ref B0), x1, x2, x3, some (.int b4), some (.int b5)], [], aa_H (zz_w (zz_w (zz_w g B0 0 1) B0 3 b4) B0 4 (b5 - b4))) v h := r
  exact rn_ret 1 rfl r
noncomputable def fn_78_131 (g : aa_G) (B0 : Nat) (b4 : Int32) : aa_G := if (g B0 5) = (-1) then fn_78_149 g B0 b4 (86400 + (g B0 6)) else g
theorem dn_78_131 {v : Option Value} {h : zz_H} {n : Nat} {g : aa_G} {B0 : Nat} {b4 : Int32} (hB0 : sp_ok B0) (x1 x2 x3 x5 : Option Value) (jx1 : rn_jk x1) (jx2 : rn_jk x2) (jx3 : rn_jk x3) (jx5 : rn_jk x5) (r : rn_s n 78 (131, [some (.ref B0), x1, x2, x3, some (.int b4), x5], [], aa_H g) v h) : ig_s v h (fn_78_131 g B0 b4) := by
  unfold fn_78_131
  obtain ⟨n71, ln71, r⟩ := rn_steps 0 (132, [some (.ref B0), x1, x2, x3, some (.int b4), x5], [.ref B0], aa_H g) rfl r
  obtain ⟨n72, ln72, r⟩ := rn_gf rfl (sp_hk hB0) (sp_hl hB0) rfl r
  have r : rn_s _ 78 (135, [some (.ref B0), x1, x2, x3, some (.int b4), x5], [.int (g B0 5)], aa_H g) v h := r
  obtain ⟨n73, ln73, r⟩ := rn_steps 0 (136, [some (.ref B0), x1, x2, x3, some (.int b4), x5], [.int (-1), .int (g B0 5)], aa_H g) rfl r
  refine rn_ic (ig_s v h) rfl decide_eq_true_iff.symm r (fun c74 l75n l75 r => ?_) (fun c74 l75n l75 r => ?_)
  · obtain ⟨n76, ln76, r⟩ := rn_steps 1 (143, [some (.ref B0), x1, x2, x3, some (.int b4), x5], [.ref B0, .int 86400], aa_H g) rfl r
    obtain ⟨n77, ln77, r⟩ := rn_gf rfl (sp_hk hB0) (sp_hl hB0) rfl r
    have r : rn_s _ 78 (146, [some (.ref B0), x1, x2, x3, some (.int b4), x5], [.int (g B0 6), .int 86400], aa_H g) v h := r
    obtain ⟨n78, ln78, r⟩ := rn_steps 1 (149, [some (.ref B0), x1, x2, x3, some (.int b4), some (.int (86400 + (g B0 6)))], [], aa_H g) rfl r
    exact dn_78_149 hB0 x1 x2 x3 jx1 jx2 jx3 r
  · exact rn_ret 1 rfl r
noncomputable def fn_78_100 (g : aa_G) (B0 : Nat) (B1 : Nat) (s0 : Int32) : aa_G := if (g B0 2) ≠ 1 then fn_78_149 g B0 s0 (g B0 7) else fn_78_131 (fn_79 g B0 B1 (((g B0 1) + 1) - ((g B0 1) + 1) / 360 * 360)) B0 s0
theorem dn_78_100 {v : Option Value} {h : zz_H} {n : Nat} {g : aa_G} {B0 : Nat} {B1 : Nat} {s0 : Int32} (hB0 : sp_ok B0) (hB1 : ct_tw B1) (x2 x3 x4 x5 : Option Value) (jx2 : rn_jk x2) (jx3 : rn_jk x3) (jx4 : rn_jk x4) (jx5 : rn_jk x5) (r : rn_s n 78 (100, [some (.ref B0), some (.ref B1), x2, x3, x4, x5], [.int s0], aa_H g) v h) : ig_s v h (fn_78_100 g B0 B1 s0) := by
  unfold fn_78_100
  obtain ⟨n52, ln52, r⟩ := rn_isx (i := 4) rfl rfl jx3 rfl ⟨Nat.le_of_ble_eq_true rfl, Nat.le_of_ble_eq_true rfl⟩ r
  have r : rn_s _ 78 (102, [some (.ref B0), some (.ref B1), x2, x3, some (.int s0), x5], [], aa_H g) v h := r
  obtain ⟨n53, ln53, r⟩ := rn_steps 0 (103, [some (.ref B0), some (.ref B1), x2, x3, some (.int s0), x5], [.ref B0], aa_H g) rfl r
  obtain ⟨n54, ln54, r⟩ := rn_gf rfl (sp_hk hB0) (sp_hl hB0) rfl r
  have r : rn_s _ 78 (106, [some (.ref B0), some (.ref B1), x2, x3, some (.int s0), x5], [.int (g B0 7)], aa_H g) v h := r
  obtain ⟨n55, ln55, r⟩ := rn_steps 1 (109, [some (.ref B0), some (.ref B1), x2, x3, some (.int s0), some (.int (g B0 7))], [.ref B0], aa_H g) rfl r
  obtain ⟨n56, ln56, r⟩ := rn_gf rfl (sp_hk hB0) (sp_hl hB0) rfl r
  have r : rn_s _ 78 (112, [some (.ref B0), some (.ref B1), x2, x3, some (.int s0), some (.int (g B0 7))], [.int (g B0 2)], aa_H g) v h := r
  obtain ⟨n57, ln57, r⟩ := rn_steps 0 (113, [some (.ref B0), some (.ref B1), x2, x3, some (.int s0), some (.int (g B0 7))], [.int 1, .int (g B0 2)], aa_H g) rfl r
  refine rn_ic (ig_s v h) rfl decide_eq_true_iff.symm r (fun c58 l59n l59 r => ?_) (fun c58 l59n l59 r => ?_)
  · exact dn_78_149 hB0 (some (.ref B1)) x2 x3 rn_jr jx2 jx3 r
  · obtain ⟨n60, ln60, r⟩ := rn_steps 2 (119, [some (.ref B0), some (.ref B1), x2, x3, some (.int s0), some (.int (g B0 7))], [.ref B0, .ref B1, .ref B0], aa_H g) rfl r
    obtain ⟨n61, ln61, r⟩ := rn_gf rfl (sp_hk hB0) (sp_hl hB0) rfl r
    have r : rn_s _ 78 (122, [some (.ref B0), some (.ref B1), x2, x3, some (.int s0), some (.int (g B0 7))], [.int (g B0 1), .ref B1, .ref B0], aa_H g) v h := r
    obtain ⟨n62, ln62, r⟩ := rn_steps 3 (128, [some (.ref B0), some (.ref B1), x2, x3, some (.int s0), some (.int (g B0 7))], [.int (((g B0 1) + 1) - ((g B0 1) + 1) / 360 * 360), .ref B1, .ref B0], aa_H g) rfl r
    obtain ⟨_, n63, v1, h1, -, ln63, rc, r⟩ := rn_cv (k := B0) (as := [.ref B1, .int (((g B0 1) + 1) - ((g B0 1) + 1) / 360 * 360)]) (rest := []) rfl (sp_hk hB0) (sp_hl hB0) rfl rfl r
    obtain ⟨rfl, rfl⟩ := dn_79 hB0 hB1 rc
    have r : rn_s _ 78 (131, [some (.ref B0), some (.ref B1), x2, x3, some (.int s0), some (.int (g B0 7))], [], aa_H (fn_79 g B0 B1 (((g B0 1) + 1) - ((g B0 1) + 1) / 360 * 360))) v h := r
    exact dn_78_131 hB0 (some (.ref B1)) x2 x3 (some (.int (g B0 7))) rn_jr jx2 jx3 rn_ji r
noncomputable def fn_78_73 (g : aa_G) (B0 : Nat) (B1 : Nat) : aa_G := if (g B0 5) = (-1) then if (g B0 2) ≠ 0 then fn_78_100 g B0 B1 (g B0 7) else fn_78_100 g B0 B1 (g B0 6) else g
theorem dn_78_73 {v : Option Value} {h : zz_H} {n : Nat} {g : aa_G} {B0 : Nat} {B1 : Nat} (hB0 : sp_ok B0) (hB1 : ct_tw B1) (x2 x3 x4 x5 : Option Value) (jx2 : rn_jk x2) (jx3 : rn_jk x3) (jx4 : rn_jk x4) (jx5 : rn_jk x5) (r : rn_s n 78 (73, [some (.ref B0), some (.ref B1), x2, x3, x4, x5], [], aa_H g) v h) : ig_s v h (fn_78_73 g B0 B1) := by
  unfold fn_78_73
  obtain ⟨n38, ln38, r⟩ := rn_steps 0 (74, [some (.ref B0), some (.ref B1), x2, x3, x4, x5], [.ref B0], aa_H g) rfl r
  obtain ⟨n39, ln39, r⟩ := rn_gf rfl (sp_hk hB0) (sp_hl hB0) rfl r
  have r : rn_s _ 78 (77, [some (.ref B0), some (.ref B1), x2, x3, x4, x5], [.int (g B0 5)], aa_H g) v h := r
  obtain ⟨n40, ln40, r⟩ := rn_steps 0 (78, [some (.ref B0), some (.ref B1), x2, x3, x4, x5], [.int (-1), .int (g B0 5)], aa_H g) rfl r
  refine rn_ic (ig_s v h) rfl decide_eq_true_iff.symm r (fun c41 l42n l42 r => ?_) (fun c41 l42n l42 r => ?_)
  · obtain ⟨n43, ln43, r⟩ := rn_steps 0 (83, [some (.ref B0), some (.ref B1), x2, x3, x4, x5], [.ref B0], aa_H g) rfl r
    obtain ⟨n44, ln44, r⟩ := rn_gf rfl (sp_hk hB0) (sp_hl hB0) rfl r
    have r : rn_s _ 78 (86, [some (.ref B0), some (.ref B1), x2, x3, x4, x5], [.int (g B0 2)], aa_H g) v h := r
    refine rn_if (ig_s v h) rfl decide_eq_true_iff.symm r (fun c45 l46n l46 r => ?_) (fun c45 l46n l46 r => ?_)
    · obtain ⟨n47, ln47, r⟩ := rn_steps 0 (97, [some (.ref B0), some (.ref B1), x2, x3, x4, x5], [.ref B0], aa_H g) rfl r
      obtain ⟨n48, ln48, r⟩ := rn_gf rfl (sp_hk hB0) (sp_hl hB0) rfl r
      have r : rn_s _ 78 (100, [some (.ref B0), some (.ref B1), x2, x3, x4, x5], [.int (g B0 7)], aa_H g) v h := r
      exact dn_78_100 hB0 hB1 x2 x3 x4 x5 jx2 jx3 jx4 jx5 r
    · obtain ⟨n49, ln49, r⟩ := rn_steps 0 (90, [some (.ref B0), some (.ref B1), x2, x3, x4, x5], [.ref B0], aa_H g) rfl r
      obtain ⟨n50, ln50, r⟩ := rn_gf rfl (sp_hk hB0) (sp_hl hB0) rfl r
      have r : rn_s _ 78 (93, [some (.ref B0), some (.ref B1), x2, x3, x4, x5], [.int (g B0 6)], aa_H g) v h := r
      obtain ⟨n51, ln51, r⟩ := rn_steps 0 (100, [some (.ref B0), some (.ref B1), x2, x3, x4, x5], [.int (g B0 6)], aa_H g) rfl r
      exact dn_78_100 hB0 hB1 x2 x3 x4 x5 jx2 jx3 jx4 jx5 r
  · exact rn_ret 1 rfl r
noncomputable def fn_78_60 (g : aa_G) (B0 : Nat) (B1 : Nat) : aa_G := fn_78_73 (fn_79 g B0 B1 ((g B0 1) - (g B0 1) / 360 * 360)) B0 B1
theorem dn_78_60 {v : Option Value} {h : zz_H} {n : Nat} {g : aa_G} {B0 : Nat} {B1 : Nat} (hB0 : sp_ok B0) (hB1 : ct_tw B1) (x2 x3 x4 x5 : Option Value) (jx2 : rn_jk x2) (jx3 : rn_jk x3) (jx4 : rn_jk x4) (jx5 : rn_jk x5) (r : rn_s n 78 (60, [some (.ref B0), some (.ref B1), x2, x3, x4, x5], [], aa_H g) v h) : ig_s v h (fn_78_60 g B0 B1) := by
  unfold fn_78_60
  obtain ⟨n33, ln33, r⟩ := rn_steps 2 (63, [some (.ref B0), some (.ref B1), x2, x3, x4, x5], [.ref B0, .ref B1, .ref B0], aa_H g) rfl r
  obtain ⟨n34, ln34, r⟩ := rn_gf rfl (sp_hk hB0) (sp_hl hB0) rfl r
  have r : rn_s _ 78 (66, [some (.ref B0), some (.ref B1), x2, x3, x4, x5], [.int (g B0 1), .ref B1, .ref B0], aa_H g) v h := r
  obtain ⟨n35, ln35, r⟩ := rn_steps 1 (70, [some (.ref B0), some (.ref B1), x2, x3, x4, x5], [.int ((g B0 1) - (g B0 1) / 360 * 360), .ref B1, .ref B0], aa_H g) rfl r
  obtain ⟨_, n36, v1, h1, -, ln36, rc, r⟩ := rn_cv (k := B0) (as := [.ref B1, .int ((g B0 1) - (g B0 1) / 360 * 360)]) (rest := []) rfl (sp_hk hB0) (sp_hl hB0) rfl rfl r
  obtain ⟨rfl, rfl⟩ := dn_79 hB0 hB1 rc
  have r : rn_s _ 78 (73, [some (.ref B0), some (.ref B1), x2, x3, x4, x5], [], aa_H (fn_79 g B0 B1 ((g B0 1) - (g B0 1) / 360 * 360))) v h := r
  exact dn_78_73 hB0 hB1 x2 x3 x4 x5 jx2 jx3 jx4 jx5 r
noncomputable def fn_78_30 (g : aa_G) (B0 : Nat) (B1 : Nat) : aa_G := if (fn_77 (g B0 1)) = 0 then g else if (g B0 2) ≠ 1 then fn_78_60 g B0 B1 else if (fn_77 ((g B0 1) + 1)) ≠ 0 then fn_78_60 g B0 B1 else g
theorem dn_78_30 {v : Option Value} {h : zz_H} {n : Nat} {g : aa_G} {B0 : Nat} {B1 : Nat} (hB0 : sp_ok B0) (hB1 : ct_tw B1) (x2 x3 x4 x5 : Option Value) (jx2 : rn_jk x2) (jx3 : rn_jk x3) (jx4 : rn_jk x4) (jx5 : rn_jk x5) (r : rn_s n 78 (30, [some (.ref B0), some (.ref B1), x2, x3, x4, x5], [.ref B0], aa_H g) v h) : ig_s v h (fn_78_30 g B0 B1) := by
  unfold fn_78_30
  obtain ⟨n16, ln16, r⟩ := rn_gf rfl (sp_hk hB0) (sp_hl hB0) rfl r
  have r : rn_s _ 78 (33, [some (.ref B0), some (.ref B1), x2, x3, x4, x5], [.int (g B0 1)], aa_H g) v h := r
  obtain ⟨_, n17, v1, h1, -, ln17, rc, r⟩ := rn_call (m2 := 77) (as := [.int (g B0 1)]) (rest := []) rfl rfl r
  obtain ⟨rfl, rfl⟩ := dn_77 rc
  have r : rn_s _ 78 (36, [some (.ref B0), some (.ref B1), x2, x3, x4, x5], [.int (fn_77 (g B0 1))], aa_H g) v h := r
  refine rn_if (ig_s v h) rfl decide_eq_true_iff.symm r (fun c19 l20n l20 r => ?_) (fun c19 l20n l20 r => ?_)
  · exact rn_ret 1 rfl r
  · obtain ⟨n21, ln21, r⟩ := rn_steps 0 (40, [some (.ref B0), some (.ref B1), x2, x3, x4, x5], [.ref B0], aa_H g) rfl r
    obtain ⟨n22, ln22, r⟩ := rn_gf rfl (sp_hk hB0) (sp_hl hB0) rfl r
    have r : rn_s _ 78 (43, [some (.ref B0), some (.ref B1), x2, x3, x4, x5], [.int (g B0 2)], aa_H g) v h := r
    obtain ⟨n23, ln23, r⟩ := rn_steps 0 (44, [some (.ref B0), some (.ref B1), x2, x3, x4, x5], [.int 1, .int (g B0 2)], aa_H g) rfl r
    refine rn_ic (ig_s v h) rfl decide_eq_true_iff.symm r (fun c24 l25n l25 r => ?_) (fun c24 l25n l25 r => ?_)
    · exact dn_78_60 hB0 hB1 x2 x3 x4 x5 jx2 jx3 jx4 jx5 r
    · obtain ⟨n26, ln26, r⟩ := rn_steps 0 (48, [some (.ref B0), some (.ref B1), x2, x3, x4, x5], [.ref B0], aa_H g) rfl r
      obtain ⟨n27, ln27, r⟩ := rn_gf rfl (sp_hk hB0) (sp_hl hB0) rfl r
      have r : rn_s _ 78 (51, [some (.ref B0), some (.ref B1), x2, x3, x4, x5], [.int (g B0 1)], aa_H g) v h := r
      obtain ⟨n28, ln28, r⟩ := rn_steps 1 (53, [some (.ref B0), some (.ref B1), x2, x3, x4, x5], [.int ((g B0 1) + 1)], aa_H g) rfl r
      obtain ⟨_, n29, v1, h1, -, ln29, rc, r⟩ := rn_call (m2 := 77) (as := [.int ((g B0 1) + 1)]) (rest := []) rfl rfl r
      obtain ⟨rfl, rfl⟩ := dn_77 rc
      have r : rn_s _ 78 (56, [some (.ref B0), some (.ref B1), x2, x3, x4, x5], [.int (fn_77 ((g B0 1) + 1))], aa_H g) v h := r
      refine rn_if (ig_s v h) rfl decide_eq_true_iff.symm r (fun c31 l32n l32 r => ?_) (fun c31 l32n l32 r => ?_)
      · exact dn_78_60 hB0 hB1 x2 x3 x4 x5 jx2 jx3 jx4 jx5 r
      · exact rn_ret 1 rfl r
noncomputable def fn_78 (g : aa_G) (P : Nat) (T : Option Nat) (a2 : Int32) (a3 : Int32) : aa_G := (match T with | none => (zz_w (zz_w (zz_w (zz_w (zz_w g P 0 0) P 1 a2) P 2 a3) P 3 0) P 4 0) | some W12 => (fn_78_30 (zz_w (zz_w (zz_w (zz_w (zz_w g P 0 0) P 1 a2) P 2 a3) P 3 0) P 4 0) P W12))
theorem dn_78 {v : Option Value} {h : zz_H} {n : Nat} {g : aa_G} {P : Nat} {T : Option Nat} {a2 : Int32} {a3 : Int32} (hP : sp_ok P) (hT : ∀ W, T = some W → ct_tw W) (r : rn_s n 78 (0, zz_in [.ref P, zz_val T, .int a2, .int a3] (zz_nl 78), [], aa_H g) v h) : ig_s v h (fn_78 g P T a2 a3) := by
  have r : rn_s n 78 (0, [some (.ref P), some (zz_val T), some (.int a2), some (.int a3), none, none], [], aa_H g) v h := by cases T <;> exact r
  unfold fn_78
  obtain ⟨n1, ln1, r⟩ := rn_steps 1 (2, [some (.ref P), some (zz_val T), some (.int a2), some (.int a3), none, none], [.int 0, .ref P], aa_H g) rfl r
  obtain ⟨n2, ln2, r⟩ := rn_pf rfl (sp_hk hP) (sp_hl hP) rfl r
  have r : rn_s _ 78 (5, [some (.ref P), some (zz_val T), some (.int a2), some (.int a3), none, none], [], aa_H (zz_w g P 0 0)) v h := r
  obtain ⟨n3, ln3, r⟩ := rn_steps 1 (7, [some (.ref P), some (zz_val T), some (.int a2), some (.int a3), none, none], [.int a2, .ref P], aa_H (zz_w g P 0 0)) rfl r
  obtain ⟨n4, ln4, r⟩ := rn_pf rfl (sp_hk hP) (sp_hl hP) rfl r
  have r : rn_s _ 78 (10, [some (.ref P), some (zz_val T), some (.int a2), some (.int a3), none, none], [], aa_H (zz_w (zz_w g P 0 0) P 1 a2)) v h := r
  obtain ⟨n5, ln5, r⟩ := rn_steps 1 (12, [some (.ref P), some (zz_val T), some (.int a2), some (.int a3), none, none], [.int a3, .ref P], aa_H (zz_w (zz_w g P 0 0) P 1 a2)) rfl r
  obtain ⟨n6, ln6, r⟩ := rn_pf rfl (sp_hk hP) (sp_hl hP) rfl r
  have r : rn_s _ 78 (15, [some (.ref P), some (zz_val T), some (.int a2), some (.int a3), none, none], [], aa_H (zz_w (zz_w (zz_w g P 0 0) P 1 a2) P 2 a3)) v h := r
  obtain ⟨n7, ln7, r⟩ := rn_steps 1 (17, [some (.ref P), some (zz_val T), some (.int a2), some (.int a3), none, none], [.int 0, .ref P], aa_H (zz_w (zz_w (zz_w g P 0 0) P 1 a2) P 2 a3)) rfl r
  obtain ⟨n8, ln8, r⟩ := rn_pf rfl (sp_hk hP) (sp_hl hP) rfl r
  have r : rn_s _ 78 (20, [some (.ref P), some (zz_val T), some (.int a2), some (.int a3), none, none], [], aa_H (zz_w (zz_w (zz_w (zz_w g P 0 0) P 1 a2) P 2 a3) P 3 0)) v h := r
  obtain ⟨n9, ln9, r⟩ := rn_steps 1 (22, [some (.ref P), some (zz_val T), some (.int a2), some (.int a3), none, none], [.int 0, .ref P], aa_H (zz_w (zz_w (zz_w (zz_w g P 0 0) P 1 a2) P 2 a3) P 3 0)) rfl r
  obtain ⟨n10, ln10, r⟩ := rn_pf rfl (sp_hk hP) (sp_hl hP) rfl r
  have r : rn_s _ 78 (25, [some (.ref P), some (zz_val T), some (.int a2), some (.int a3), none, none], [], aa_H (zz_w (zz_w (zz_w (zz_w (zz_w g P 0 0) P 1 a2) P 2 a3) P 3 0) P 4 0)) v h := r
  cases e11 : T with
  | none =>
    rw [e11] at r
    have r : rn_s _ 78 (25, [some (.ref P), some (.null), some (.int a2), some (.int a3), none, none], [], aa_H (zz_w (zz_w (zz_w (zz_w (zz_w g P 0 0) P 1 a2) P 2 a3) P 3 0) P 4 0)) v h := r
    dsimp only
    obtain ⟨n14, ln14, r⟩ := rn_steps 1 (59, [some (.ref P), some (.null), some (.int a2), some (.int a3), none, none], [], aa_H (zz_w (zz_w (zz_w (zz_w (zz_w g P 0 0) P 1 a2) P 2 a3) P 3 0) P 4 0)) rfl r
    exact rn_ret 1 rfl r
  | some W12 =>
    rw [e11] at r
    have hw13 : ct_tw W12 := hT _ e11
    have r : rn_s _ 78 (25, [some (.ref P), some (.ref W12), some (.int a2), some (.int a3), none, none], [], aa_H (zz_w (zz_w (zz_w (zz_w (zz_w g P 0 0) P 1 a2) P 2 a3) P 3 0) P 4 0)) v h := r
    dsimp only
    obtain ⟨n15, ln15, r⟩ := rn_steps 2 (30, [some (.ref P), some (.ref W12), some (.int a2), some (.int a3), none, none], [.ref P], aa_H (zz_w (zz_w (zz_w (zz_w (zz_w g P 0 0) P 1 a2) P 2 a3) P 3 0) P 4 0)) rfl r
    exact dn_78_30 hP hw13 (some (.int a2)) (some (.int a3)) none none rn_ji rn_ji rn_jn rn_jn r
-- 86: UnequalHours Span find
noncomputable def fn_86_62 (g : aa_G) (S0 : Nat) : Int32 × aa_G := (g S0 0, g)
theorem dn_86_62 {v : Option Value} {h : zz_H} {n : Nat} {g : aa_G} {S0 : Nat} (hS0 : sp_ok S0) (x0 x1 x2 x3 : Option Value) (jx0 : rn_jk x0) (jx1 : rn_jk x1) (jx2 : rn_jk x2) (jx3 : rn_jk x3) (r : rn_s n 86 (62, [x0, x1, x2, x3], [.ref S0], aa_H g) v h) : iw_s v h (fn_86_62 g S0) := by
  unfold fn_86_62
  obtain ⟨n33, ln33, r⟩ := rn_gf rfl (sp_hk hS0) (sp_hl hS0) rfl r
  have r : rn_s _ 86 (65, [x0, x1, x2, x3], [.int (g S0 0)], aa_H g) v h := r
  exact rn_ire rfl r
noncomputable def fn_86_34 (g : aa_G) (B0 : Nat) (B1 : Nat) (b2 : Int32) (b3 : Int32) : Int32 × aa_G := if (g B0 0) = 0 then fn_86_62 g B0 else if b3 < ((g B0 3) + (g B0 4)) then fn_86_62 g B0 else fn_86_62 (fn_78 g B0 (some B1) b2 1) B0
theorem dn_86_34 {v : Option Value} {h : zz_H} {n : Nat} {g : aa_G} {B0 : Nat} {B1 : Nat} {b2 : Int32} {b3 : Int32} (hB0 : sp_ok B0) (hB1 : ct_tw B1) (r : rn_s n 86 (34, [some (.ref B0), some (.ref B1), some (.int b2), some (.int b3)], [], aa_H g) v h) : iw_s v h (fn_86_34 g B0 B1 b2 b3) := by
  unfold fn_86_34
  obtain ⟨n16, ln16, r⟩ := rn_steps 0 (35, [some (.ref B0), some (.ref B1), some (.int b2), some (.int b3)], [.ref B0], aa_H g) rfl r
  obtain ⟨n17, ln17, r⟩ := rn_gf rfl (sp_hk hB0) (sp_hl hB0) rfl r
  have r : rn_s _ 86 (38, [some (.ref B0), some (.ref B1), some (.int b2), some (.int b3)], [.int (g B0 0)], aa_H g) v h := r
  refine rn_if (iw_s v h) rfl decide_eq_true_iff.symm r (fun c18 l19n l19 r => ?_) (fun c18 l19n l19 r => ?_)
  · obtain ⟨n20, ln20, r⟩ := rn_steps 0 (62, [some (.ref B0), some (.ref B1), some (.int b2), some (.int b3)], [.ref B0], aa_H g) rfl r
    exact dn_86_62 hB0 (some (.ref B0)) (some (.ref B1)) (some (.int b2)) (some (.int b3)) rn_jr rn_jr rn_ji rn_ji r
  · obtain ⟨n21, ln21, r⟩ := rn_steps 1 (43, [some (.ref B0), some (.ref B1), some (.int b2), some (.int b3)], [.ref B0, .int b3], aa_H g) rfl r
    obtain ⟨n22, ln22, r⟩ := rn_gf rfl (sp_hk hB0) (sp_hl hB0) rfl r
    have r : rn_s _ 86 (46, [some (.ref B0), some (.ref B1), some (.int b2), some (.int b3)], [.int (g B0 3), .int b3], aa_H g) v h := r
    obtain ⟨n23, ln23, r⟩ := rn_steps 0 (47, [some (.ref B0), some (.ref B1), some (.int b2), some (.int b3)], [.ref B0, .int (g B0 3), .int b3], aa_H g) rfl r
    obtain ⟨n24, ln24, r⟩ := rn_gf rfl (sp_hk hB0) (sp_hl hB0) rfl r
    have r : rn_s _ 86 (50, [some (.ref B0), some (.ref B1), some (.int b2), some (.int b3)], [.int (g B0 4), .int (g B0 3), .int b3], aa_H g) v h := r
    obtain ⟨n25, ln25, r⟩ := rn_steps 0 (51, [some (.ref B0), some (.ref B1), some (.int b2), some (.int b3)], [.int ((g B0 3) + (g B0 4)), .int b3], aa_H g) rfl r
    refine rn_ic (iw_s v h) rfl decide_eq_true_iff.symm r (fun c26 l27n l27 r => ?_) (fun c26 l27n l27 r => ?_)
    · obtain ⟨n28, ln28, r⟩ := rn_steps 0 (62, [some (.ref B0), some (.ref B1), some (.int b2), some (.int b3)], [.ref B0], aa_H g) rfl r
      exact dn_86_62 hB0 (some (.ref B0)) (some (.ref B1)) (some (.int b2)) (some (.int b3)) rn_jr rn_jr rn_ji rn_ji r
    · obtain ⟨n29, ln29, r⟩ := rn_steps 3 (58, [some (.ref B0), some (.ref B1), some (.int b2), some (.int b3)], [.int 1, .int b2, .ref B1, .ref B0], aa_H g) rfl r
      obtain ⟨_, n30, v1, h1, -, ln30, rc, r⟩ := rn_cv (k := B0) (as := [.ref B1, .int b2, .int 1]) (rest := []) rfl (sp_hk hB0) (sp_hl hB0) rfl rfl r
      obtain ⟨rfl, rfl⟩ := dn_78 hB0 (rn_o1 hB1) rc
      have r : rn_s _ 86 (61, [some (.ref B0), some (.ref B1), some (.int b2), some (.int b3)], [], aa_H (fn_78 g B0 (some B1) b2 1)) v h := r
      obtain ⟨n32, ln32, r⟩ := rn_steps 0 (62, [some (.ref B0), some (.ref B1), some (.int b2), some (.int b3)], [.ref B0], aa_H (fn_78 g B0 (some B1) b2 1)) rfl r
      exact dn_86_62 hB0 (some (.ref B0)) (some (.ref B1)) (some (.int b2)) (some (.int b3)) rn_jr rn_jr rn_ji rn_ji r
noncomputable def fn_86_7 (g : aa_G) (B0 : Nat) (B1 : Nat) (b2 : Int32) (b3 : Int32) : Int32 × aa_G := if (g B0 0) = 0 then fn_86_34 g B0 B1 b2 b3 else if (g B0 3) ≤ b3 then fn_86_34 g B0 B1 b2 b3 else fn_86_62 (fn_78 g B0 (some B1) (b2 - 1) 1) B0
theorem dn_86_7 {v : Option Value} {h : zz_H} {n : Nat} {g : aa_G} {B0 : Nat} {B1 : Nat} {b2 : Int32} {b3 : Int32} (hB0 : sp_ok B0) (hB1 : ct_tw B1) (r : rn_s n 86 (7, [some (.ref B0), some (.ref B1), some (.int b2), some (.int b3)], [], aa_H g) v h) : iw_s v h (fn_86_7 g B0 B1 b2 b3) := by
  unfold fn_86_7
  obtain ⟨n4, ln4, r⟩ := rn_steps 0 (8, [some (.ref B0), some (.ref B1), some (.int b2), some (.int b3)], [.ref B0], aa_H g) rfl r
  obtain ⟨n5, ln5, r⟩ := rn_gf rfl (sp_hk hB0) (sp_hl hB0) rfl r
  have r : rn_s _ 86 (11, [some (.ref B0), some (.ref B1), some (.int b2), some (.int b3)], [.int (g B0 0)], aa_H g) v h := r
  refine rn_if (iw_s v h) rfl decide_eq_true_iff.symm r (fun c6 l7n l7 r => ?_) (fun c6 l7n l7 r => ?_)
  · exact dn_86_34 hB0 hB1 r
  · obtain ⟨n8, ln8, r⟩ := rn_steps 1 (16, [some (.ref B0), some (.ref B1), some (.int b2), some (.int b3)], [.ref B0, .int b3], aa_H g) rfl r
    obtain ⟨n9, ln9, r⟩ := rn_gf rfl (sp_hk hB0) (sp_hl hB0) rfl r
    have r : rn_s _ 86 (19, [some (.ref B0), some (.ref B1), some (.int b2), some (.int b3)], [.int (g B0 3), .int b3], aa_H g) v h := r
    refine rn_ic (iw_s v h) rfl decide_eq_true_iff.symm r (fun c10 l11n l11 r => ?_) (fun c10 l11n l11 r => ?_)
    · exact dn_86_34 hB0 hB1 r
    · obtain ⟨n12, ln12, r⟩ := rn_steps 5 (28, [some (.ref B0), some (.ref B1), some (.int b2), some (.int b3)], [.int 1, .int (b2 - 1), .ref B1, .ref B0], aa_H g) rfl r
      obtain ⟨_, n13, v1, h1, -, ln13, rc, r⟩ := rn_cv (k := B0) (as := [.ref B1, .int (b2 - 1), .int 1]) (rest := []) rfl (sp_hk hB0) (sp_hl hB0) rfl rfl r
      obtain ⟨rfl, rfl⟩ := dn_78 hB0 (rn_o1 hB1) rc
      have r : rn_s _ 86 (31, [some (.ref B0), some (.ref B1), some (.int b2), some (.int b3)], [], aa_H (fn_78 g B0 (some B1) (b2 - 1) 1)) v h := r
      obtain ⟨n15, ln15, r⟩ := rn_steps 1 (62, [some (.ref B0), some (.ref B1), some (.int b2), some (.int b3)], [.ref B0], aa_H (fn_78 g B0 (some B1) (b2 - 1) 1)) rfl r
      exact dn_86_62 hB0 (some (.ref B0)) (some (.ref B1)) (some (.int b2)) (some (.int b3)) rn_jr rn_jr rn_ji rn_ji r
noncomputable def fn_86 (g : aa_G) (P : Nat) (T : Nat) (a2 : Int32) (a3 : Int32) : Int32 × aa_G := fn_86_7 (fn_78 g P (some T) a2 0) P T a2 a3
theorem dn_86 {v : Option Value} {h : zz_H} {n : Nat} {g : aa_G} {P : Nat} {T : Nat} {a2 : Int32} {a3 : Int32} (hP : sp_ok P) (hT : ct_tw T) (r : rn_s n 86 (0, zz_in [.ref P, .ref T, .int a2, .int a3] (zz_nl 86), [], aa_H g) v h) : iw_s v h (fn_86 g P T a2 a3) := by
  have r : rn_s n 86 (0, [some (.ref P), some (.ref T), some (.int a2), some (.int a3)], [], aa_H g) v h := r
  unfold fn_86
  obtain ⟨n1, ln1, r⟩ := rn_steps 3 (4, [some (.ref P), some (.ref T), some (.int a2), some (.int a3)], [.int 0, .int a2, .ref T, .ref P], aa_H g) rfl r
  obtain ⟨_, n2, v1, h1, -, ln2, rc, r⟩ := rn_cv (k := P) (as := [.ref T, .int a2, .int 0]) (rest := []) rfl (sp_hk hP) (sp_hl hP) rfl rfl r
  obtain ⟨rfl, rfl⟩ := dn_78 hP (rn_o1 hT) rc
  have r : rn_s _ 86 (7, [some (.ref P), some (.ref T), some (.int a2), some (.int a3)], [], aa_H (fn_78 g P (some T) a2 0)) v h := r
  exact dn_86_7 hP hT r
-- 31: UnequalHours State townAt
noncomputable def fn_31 (g : aa_G) (a1 : Int32) : Option Nat := if (fn_14 a1 0 ((g 2 0) - 1)) = 0 then none else some (5 * a1.toNatClampNeg + 14)
theorem dn_31 {v : Option Value} {h : zz_H} {n : Nat} {g : aa_G} {a1 : Int32}  (r : rn_s n 31 (0, zz_in [.ref 2, .int a1] (zz_nl 31), [], aa_H g) v h) : io_s g v h (fn_31 g a1) := by
  have r : rn_s n 31 (0, [some (.ref 2), some (.int a1)], [], aa_H g) v h := r
  unfold fn_31
  obtain ⟨n1, ln1, r⟩ := rn_steps 5 (8, [some (.ref 2), some (.int a1)], [.int ((g 2 0) - 1), .int 0, .int a1], aa_H g) rfl r
  obtain ⟨_, n2, v1, h1, -, ln2, rc, r⟩ := rn_call (m2 := 14) (as := [.int a1, .int 0, .int ((g 2 0) - 1)]) (rest := []) rfl rfl r
  obtain ⟨rfl, rfl⟩ := dn_14 rc
  have r : rn_s _ 31 (11, [some (.ref 2), some (.int a1)], [.int (fn_14 a1 0 ((g 2 0) - 1))], aa_H g) v h := r
  refine rn_if (io_s g v h) rfl decide_eq_true_iff.symm r (fun c4 l5n l5 r => ?_) (fun c4 l5n l5 r => ?_)
  · obtain ⟨n6, ln6, r⟩ := rn_steps 0 (24, [some (.ref 2), some (.int a1)], [.null], aa_H g) rfl r
    exact rn_io0 (rn_ret 1 rfl r)
  · obtain ⟨n7, ln7, r⟩ := rn_steps 2 (19, [some (.ref 2), some (.int a1)], [.int a1, .ref 3], aa_H g) rfl r
    obtain ⟨hb9, n8, ln8, r⟩ := rn_aal (k := 3) (c := 5) (b := 14) (N := 4) rfl ⟨by decide, by decide⟩ rfl rfl (by decide) (by decide) r
    have ho10 : ct_tw (5 * a1.toNatClampNeg + 14) := rn_twat hb9
    have r : rn_s _ 31 (20, [some (.ref 2), some (.int a1)], [.ref (5 * a1.toNatClampNeg + 14)], aa_H g) v h := r
    obtain ⟨n11, ln11, r⟩ := rn_steps 0 (24, [some (.ref 2), some (.int a1)], [.ref (5 * a1.toNatClampNeg + 14)], aa_H g) rfl r
    exact rn_io1 ho10 (rn_ret 1 rfl r)
-- 133: UnequalHours firstOf
noncomputable def fn_133 (g : aa_G) (a1 : Int32) : Option Nat := if (fn_14 a1 0 15) = 0 then none else (match fn_31 g (a1 / 4) with | none => (none) | some W13 => (some W13))
theorem dn_133 {v : Option Value} {h : zz_H} {n : Nat} {g : aa_G} {a1 : Int32}  (r : rn_s n 133 (0, zz_in [.ref 1, .int a1] (zz_nl 133), [], aa_H g) v h) : io_s g v h (fn_133 g a1) := by
  have r : rn_s n 133 (0, [some (.ref 1), some (.int a1)], [], aa_H g) v h := r
  unfold fn_133
  obtain ⟨n1, ln1, r⟩ := rn_steps 2 (4, [some (.ref 1), some (.int a1)], [.int 15, .int 0, .int a1], aa_H g) rfl r
  obtain ⟨_, n2, v1, h1, -, ln2, rc, r⟩ := rn_call (m2 := 14) (as := [.int a1, .int 0, .int 15]) (rest := []) rfl rfl r
  obtain ⟨rfl, rfl⟩ := dn_14 rc
  have r : rn_s _ 133 (7, [some (.ref 1), some (.int a1)], [.int (fn_14 a1 0 15)], aa_H g) v h := r
  refine rn_if (io_s g v h) rfl decide_eq_true_iff.symm r (fun c4 l5n l5 r => ?_) (fun c4 l5n l5 r => ?_)
  · obtain ⟨n6, ln6, r⟩ := rn_steps 0 (24, [some (.ref 1), some (.int a1)], [.null], aa_H g) rfl r
    exact rn_io0 (rn_ret 1 rfl r)
  · obtain ⟨n7, ln7, r⟩ := rn_steps 4 (17, [some (.ref 1), some (.int a1)], [.int (a1 / 4), .ref 2], aa_H g) rfl r
    obtain ⟨_, n8, v1, h1, -, ln8, rc, r⟩ := rn_call (m2 := 31) (as := [.ref 2, .int (a1 / 4)]) (rest := []) rfl rfl r
    obtain ⟨rfl, rfl, ho10⟩ := dn_31 rc
    have r : rn_s _ 133 (20, [some (.ref 1), some (.int a1)], [zz_val (fn_31 g (a1 / 4))], aa_H g) v h := r
    obtain ⟨n11, ln11, r⟩ := rn_steps 0 (24, [some (.ref 1), some (.int a1)], [zz_val (fn_31 g (a1 / 4))], aa_H g) rfl r
    cases e12 : fn_31 g (a1 / 4) with
    | none =>
      rw [e12] at r
      have r : rn_s _ 133 (24, [some (.ref 1), some (.int a1)], [.null], aa_H g) v h := r
      dsimp only
      exact rn_io0 (rn_ret 1 rfl r)
    | some W13 =>
      rw [e12] at r
      have hw14 : ct_tw W13 := ho10 _ e12
      have r : rn_s _ 133 (24, [some (.ref 1), some (.int a1)], [.ref W13], aa_H g) v h := r
      dsimp only
      exact rn_io1 hw14 (rn_ret 1 rfl r)
-- 134: UnequalHours secondOf
noncomputable def fn_134 (g : aa_G) (a1 : Int32) : Option Nat := if (fn_14 a1 0 15) = 0 then none else (match fn_31 g (a1 - a1 / 4 * 4) with | none => (none) | some W13 => (some W13))
theorem dn_134 {v : Option Value} {h : zz_H} {n : Nat} {g : aa_G} {a1 : Int32}  (r : rn_s n 134 (0, zz_in [.ref 1, .int a1] (zz_nl 134), [], aa_H g) v h) : io_s g v h (fn_134 g a1) := by
  have r : rn_s n 134 (0, [some (.ref 1), some (.int a1)], [], aa_H g) v h := r
  unfold fn_134
  obtain ⟨n1, ln1, r⟩ := rn_steps 2 (4, [some (.ref 1), some (.int a1)], [.int 15, .int 0, .int a1], aa_H g) rfl r
  obtain ⟨_, n2, v1, h1, -, ln2, rc, r⟩ := rn_call (m2 := 14) (as := [.int a1, .int 0, .int 15]) (rest := []) rfl rfl r
  obtain ⟨rfl, rfl⟩ := dn_14 rc
  have r : rn_s _ 134 (7, [some (.ref 1), some (.int a1)], [.int (fn_14 a1 0 15)], aa_H g) v h := r
  refine rn_if (io_s g v h) rfl decide_eq_true_iff.symm r (fun c4 l5n l5 r => ?_) (fun c4 l5n l5 r => ?_)
  · obtain ⟨n6, ln6, r⟩ := rn_steps 0 (24, [some (.ref 1), some (.int a1)], [.null], aa_H g) rfl r
    exact rn_io0 (rn_ret 1 rfl r)
  · obtain ⟨n7, ln7, r⟩ := rn_steps 4 (17, [some (.ref 1), some (.int a1)], [.int (a1 - a1 / 4 * 4), .ref 2], aa_H g) rfl r
    obtain ⟨_, n8, v1, h1, -, ln8, rc, r⟩ := rn_call (m2 := 31) (as := [.ref 2, .int (a1 - a1 / 4 * 4)]) (rest := []) rfl rfl r
    obtain ⟨rfl, rfl, ho10⟩ := dn_31 rc
    have r : rn_s _ 134 (20, [some (.ref 1), some (.int a1)], [zz_val (fn_31 g (a1 - a1 / 4 * 4))], aa_H g) v h := r
    obtain ⟨n11, ln11, r⟩ := rn_steps 0 (24, [some (.ref 1), some (.int a1)], [zz_val (fn_31 g (a1 - a1 / 4 * 4))], aa_H g) rfl r
    cases e12 : fn_31 g (a1 - a1 / 4 * 4) with
    | none =>
      rw [e12] at r
      have r : rn_s _ 134 (24, [some (.ref 1), some (.int a1)], [.null], aa_H g) v h := r
      dsimp only
      exact rn_io0 (rn_ret 1 rfl r)
    | some W13 =>
      rw [e12] at r
      have hw14 : ct_tw W13 := ho10 _ e12
      have r : rn_s _ 134 (24, [some (.ref 1), some (.int a1)], [.ref W13], aa_H g) v h := r
      dsimp only
      exact rn_io1 hw14 (rn_ret 1 rfl r)
end
section
/-! METHODS READ (printed by wip/dc/dc.py) -/
-- 76: UnequalHours table
noncomputable def fn_76_53 (g : aa_G) (b3 : Int32) : Int32 × aa_G := if b3 ≠ 4 then if (g 461 0) ≠ 0 then if b3 ≠ 0 then if b3 ≠ 1 then (g 461 4, g) else ((g 461 3) + (g 461 4), g) else (g 461 3, g) else (-2, g) else (g 461 5, g)
theorem dn_76_53 {v : Option Value} {h : zz_H} {n : Nat} {g : aa_G} {b3 : Int32}  (x1 x2 x4 : Option Value) (jx1 : rn_jk x1) (jx2 : rn_jk x2) (jx4 : rn_jk x4) (r : rn_s n 76 (53, [some (.ref 1), x1, x2, some (.int b3), x4], [], aa_H g) v h) : iw_s v h (fn_76_53 g b3) := by
  unfold fn_76_53
  obtain ⟨n28, ln28, r⟩ := rn_steps 1 (55, [some (.ref 1), x1, x2, some (.int b3), x4], [.int 4, .int b3], aa_H g) rfl r
  refine rn_ic (iw_s v h) rfl decide_eq_true_iff.symm r (fun c29 l30n l30 r => ?_) (fun c29 l30n l30 r => ?_)
  · obtain ⟨n31, ln31, r⟩ := rn_steps 2 (73, [some (.ref 1), x1, x2, some (.int b3), x4], [.int (g 461 0)], aa_H g) rfl r
    refine rn_if (iw_s v h) rfl decide_eq_true_iff.symm r (fun c32 l33n l33 r => ?_) (fun c32 l33n l33 r => ?_)
    · obtain ⟨n34, ln34, r⟩ := rn_steps 0 (80, [some (.ref 1), x1, x2, some (.int b3), x4], [.int b3], aa_H g) rfl r
      refine rn_if (iw_s v h) rfl decide_eq_true_iff.symm r (fun c35 l36n l36 r => ?_) (fun c35 l36n l36 r => ?_)
      · obtain ⟨n37, ln37, r⟩ := rn_steps 1 (93, [some (.ref 1), x1, x2, some (.int b3), x4], [.int 1, .int b3], aa_H g) rfl r
        refine rn_ic (iw_s v h) rfl decide_eq_true_iff.symm r (fun c38 l39n l39 r => ?_) (fun c38 l39n l39 r => ?_)
        · obtain ⟨n40, ln40, r⟩ := rn_steps 2 (121, [some (.ref 1), x1, x2, some (.int b3), x4], [.int (g 461 4)], aa_H g) rfl r
          exact rn_ire rfl r
        · obtain ⟨n41, ln41, r⟩ := rn_steps 7 (121, [some (.ref 1), x1, x2, some (.int b3), x4], [.int ((g 461 3) + (g 461 4))], aa_H g) rfl r
          exact rn_ire rfl r
      · obtain ⟨n42, ln42, r⟩ := rn_steps 2 (90, [some (.ref 1), x1, x2, some (.int b3), x4], [.int (g 461 3)], aa_H g) rfl r
        exact rn_ire rfl r
    · obtain ⟨n43, ln43, r⟩ := rn_steps 0 (78, [some (.ref 1), x1, x2, some (.int b3), x4], [.int (-2)], aa_H g) rfl r
      exact rn_ire rfl r
  · obtain ⟨n44, ln44, r⟩ := rn_steps 2 (65, [some (.ref 1), x1, x2, some (.int b3), x4], [.int (g 461 5)], aa_H g) rfl r
    exact rn_ire rfl r
noncomputable def fn_76_50 (g : aa_G) (b3 : Int32) (s0 : Int32) (s1 : Int32) (S2 : Nat) : Int32 × aa_G := fn_76_53 (fn_78 g 461 (some S2) s1 s0) b3
theorem dn_76_50 {v : Option Value} {h : zz_H} {n : Nat} {g : aa_G} {b3 : Int32} {s0 : Int32} {s1 : Int32} {S2 : Nat} (hS2 : ct_tw S2) (x1 x2 x4 : Option Value) (jx1 : rn_jk x1) (jx2 : rn_jk x2) (jx4 : rn_jk x4) (r : rn_s n 76 (50, [some (.ref 1), x1, x2, some (.int b3), x4], [.int s0, .int s1, .ref S2, .ref 461], aa_H g) v h) : iw_s v h (fn_76_50 g b3 s0 s1 S2) := by
  unfold fn_76_50
  obtain ⟨_, n26, v1, h1, -, ln26, rc, r⟩ := rn_call (m2 := 78) (as := [.ref 461, .ref S2, .int s1, .int s0]) (rest := []) rfl rfl r
  obtain ⟨rfl, rfl⟩ := dn_78 sp_c461 (rn_o1 hS2) rc
  have r : rn_s _ 76 (53, [some (.ref 1), x1, x2, some (.int b3), x4], [], aa_H (fn_78 g 461 (some S2) s1 s0)) v h := r
  exact dn_76_53 x1 x2 x4 jx1 jx2 jx4 r
noncomputable def fn_76 (g : aa_G) (a1 : Int32) (a2 : Int32) (a3 : Int32) : Int32 × aa_G := (match fn_31 g a1 with | none => ((-1, g)) | some W6 => (if (fn_77 a2) = 0 then (-1, g) else if (fn_14 a3 0 4) ≠ 0 then if a3 ≠ 3 then fn_76_50 g a3 0 a2 W6 else fn_76_50 g a3 1 a2 W6 else (-1, g)))
theorem dn_76 {v : Option Value} {h : zz_H} {n : Nat} {g : aa_G} {a1 : Int32} {a2 : Int32} {a3 : Int32}  (r : rn_s n 76 (0, zz_in [.ref 1, .int a1, .int a2, .int a3] (zz_nl 76), [], aa_H g) v h) : iw_s v h (fn_76 g a1 a2 a3) := by
  have r : rn_s n 76 (0, [some (.ref 1), some (.int a1), some (.int a2), some (.int a3), none], [], aa_H g) v h := r
  unfold fn_76
  obtain ⟨n1, ln1, r⟩ := rn_steps 2 (5, [some (.ref 1), some (.int a1), some (.int a2), some (.int a3), none], [.int a1, .ref 2], aa_H g) rfl r
  obtain ⟨_, n2, v1, h1, -, ln2, rc, r⟩ := rn_call (m2 := 31) (as := [.ref 2, .int a1]) (rest := []) rfl rfl r
  obtain ⟨rfl, rfl, ho4⟩ := dn_31 rc
  have r : rn_s _ 76 (8, [some (.ref 1), some (.int a1), some (.int a2), some (.int a3), none], [zz_val (fn_31 g a1)], aa_H g) v h := r
  cases e5 : fn_31 g a1 with
  | none =>
    rw [e5] at r
    have r : rn_s _ 76 (8, [some (.ref 1), some (.int a1), some (.int a2), some (.int a3), none], [.null], aa_H g) v h := r
    dsimp only
    obtain ⟨n8, ln8, r⟩ := rn_steps 3 (32, [some (.ref 1), some (.int a1), some (.int a2), some (.int a3), some (.null)], [.int (-1)], aa_H g) rfl r
    exact rn_ire rfl r
  | some W6 =>
    rw [e5] at r
    have hw7 : ct_tw W6 := ho4 _ e5
    have r : rn_s _ 76 (8, [some (.ref 1), some (.int a1), some (.int a2), some (.int a3), none], [.ref W6], aa_H g) v h := r
    dsimp only
    obtain ⟨n9, ln9, r⟩ := rn_steps 3 (16, [some (.ref 1), some (.int a1), some (.int a2), some (.int a3), some (.ref W6)], [.int a2], aa_H g) rfl r
    obtain ⟨_, n10, v1, h1, -, ln10, rc, r⟩ := rn_call (m2 := 77) (as := [.int a2]) (rest := []) rfl rfl r
    obtain ⟨rfl, rfl⟩ := dn_77 rc
    have r : rn_s _ 76 (19, [some (.ref 1), some (.int a1), some (.int a2), some (.int a3), some (.ref W6)], [.int (fn_77 a2)], aa_H g) v h := r
    refine rn_if (iw_s v h) rfl decide_eq_true_iff.symm r (fun c12 l13n l13 r => ?_) (fun c12 l13n l13 r => ?_)
    · obtain ⟨n14, ln14, r⟩ := rn_steps 0 (32, [some (.ref 1), some (.int a1), some (.int a2), some (.int a3), some (.ref W6)], [.int (-1)], aa_H g) rfl r
      exact rn_ire rfl r
    · obtain ⟨n15, ln15, r⟩ := rn_steps 2 (25, [some (.ref 1), some (.int a1), some (.int a2), some (.int a3), some (.ref W6)], [.int 4, .int 0, .int a3], aa_H g) rfl r
      obtain ⟨_, n16, v1, h1, -, ln16, rc, r⟩ := rn_call (m2 := 14) (as := [.int a3, .int 0, .int 4]) (rest := []) rfl rfl r
      obtain ⟨rfl, rfl⟩ := dn_14 rc
      have r : rn_s _ 76 (28, [some (.ref 1), some (.int a1), some (.int a2), some (.int a3), some (.ref W6)], [.int (fn_14 a3 0 4)], aa_H g) v h := r
      refine rn_if (iw_s v h) rfl decide_eq_true_iff.symm r (fun c18 l19n l19 r => ?_) (fun c18 l19n l19 r => ?_)
      · obtain ⟨n20, ln20, r⟩ := rn_steps 5 (42, [some (.ref 1), some (.int a1), some (.int a2), some (.int a3), some (.ref W6)], [.int 3, .int a3, .int a2, .ref W6, .ref 461], aa_H g) rfl r
        refine rn_ic (iw_s v h) rfl decide_eq_true_iff.symm r (fun c21 l22n l22 r => ?_) (fun c21 l22n l22 r => ?_)
        · obtain ⟨n23, ln23, r⟩ := rn_steps 0 (50, [some (.ref 1), some (.int a1), some (.int a2), some (.int a3), some (.ref W6)], [.int 0, .int a2, .ref W6, .ref 461], aa_H g) rfl r
          exact dn_76_50 hw7 (some (.int a1)) (some (.int a2)) (some (.ref W6)) rn_ji rn_ji rn_jr r
        · obtain ⟨n24, ln24, r⟩ := rn_steps 1 (50, [some (.ref 1), some (.int a1), some (.int a2), some (.int a3), some (.ref W6)], [.int 1, .int a2, .ref W6, .ref 461], aa_H g) rfl r
          exact dn_76_50 hw7 (some (.int a1)) (some (.int a2)) (some (.ref W6)) rn_ji rn_ji rn_jr r
      · obtain ⟨n25, ln25, r⟩ := rn_steps 0 (32, [some (.ref 1), some (.int a1), some (.int a2), some (.int a3), some (.ref W6)], [.int (-1)], aa_H g) rfl r
        exact rn_ire rfl r
-- 89: UnequalHours State hourOf
noncomputable def fn_89 (g : aa_G) (a1 : Int32) : Int32 := if (g 2 1) ≤ 0 then 0 else a1 / (g 2 1)
theorem dn_89 {v : Option Value} {h : zz_H} {n : Nat} {g : aa_G} {a1 : Int32}  (r : rn_s n 89 (0, zz_in [.ref 2, .int a1] (zz_nl 89), [], aa_H g) v h) : ir_s g v h (fn_89 g a1) := by
  have r : rn_s n 89 (0, [some (.ref 2), some (.int a1)], [], aa_H g) v h := r
  unfold fn_89
  obtain ⟨n1, ln1, r⟩ := rn_steps 1 (4, [some (.ref 2), some (.int a1)], [.int (g 2 1)], aa_H g) rfl r
  refine rn_if (ir_s g v h) rfl decide_eq_true_iff.symm r (fun c2 l3n l3 r => ?_) (fun c2 l3n l3 r => ?_)
  · obtain ⟨n4, ln4, r⟩ := rn_steps 0 (17, [some (.ref 2), some (.int a1)], [.int 0], aa_H g) rfl r
    exact rn_ire rfl r
  · obtain ⟨n5, ln5, r⟩ := rn_steps 2 (12, [some (.ref 2), some (.int a1)], [.int (g 2 1), .int a1], aa_H g) rfl r
    obtain ⟨hd7, n6, ln6, r⟩ := rn_div rfl r
    have r : rn_s _ 89 (13, [some (.ref 2), some (.int a1)], [.int (a1 / (g 2 1))], aa_H g) v h := r
    obtain ⟨n8, ln8, r⟩ := rn_steps 0 (17, [some (.ref 2), some (.int a1)], [.int (a1 / (g 2 1))], aa_H g) rfl r
    exact rn_ire rfl r
-- 88: UnequalHours Span placeOf
noncomputable def fn_88 (g : aa_G) (P : Nat) (a1 : Int32) (a2 : Int32) : Int32 := if (g P 4) ≤ 0 then 0 else (((a1.toInt64 * 12) * a2.toInt64) / ((g P 4).toInt64)).toInt32
theorem dn_88 {v : Option Value} {h : zz_H} {n : Nat} {g : aa_G} {P : Nat} {a1 : Int32} {a2 : Int32} (hP : sp_ok P) (r : rn_s n 88 (0, zz_in [.ref P, .int a1, .int a2] (zz_nl 88), [], aa_H g) v h) : ir_s g v h (fn_88 g P a1 a2) := by
  have r : rn_s n 88 (0, [some (.ref P), some (.int a1), some (.int a2)], [], aa_H g) v h := r
  unfold fn_88
  obtain ⟨n1, ln1, r⟩ := rn_steps 0 (1, [some (.ref P), some (.int a1), some (.int a2)], [.ref P], aa_H g) rfl r
  obtain ⟨n2, ln2, r⟩ := rn_gf rfl (sp_hk hP) (sp_hl hP) rfl r
  have r : rn_s _ 88 (4, [some (.ref P), some (.int a1), some (.int a2)], [.int (g P 4)], aa_H g) v h := r
  refine rn_if (ir_s g v h) rfl decide_eq_true_iff.symm r (fun c3 l4n l4 r => ?_) (fun c3 l4n l4 r => ?_)
  · obtain ⟨n5, ln5, r⟩ := rn_steps 0 (27, [some (.ref P), some (.int a1), some (.int a2)], [.int 0], aa_H g) rfl r
    exact rn_ire rfl r
  · obtain ⟨n6, ln6, r⟩ := rn_steps 7 (17, [some (.ref P), some (.int a1), some (.int a2)], [.ref P, .long ((a1.toInt64 * 12) * a2.toInt64)], aa_H g) rfl r
    obtain ⟨n7, ln7, r⟩ := rn_gf rfl (sp_hk hP) (sp_hl hP) rfl r
    have r : rn_s _ 88 (20, [some (.ref P), some (.int a1), some (.int a2)], [.int (g P 4), .long ((a1.toInt64 * 12) * a2.toInt64)], aa_H g) v h := r
    obtain ⟨n8, ln8, r⟩ := rn_steps 0 (21, [some (.ref P), some (.int a1), some (.int a2)], [.long ((g P 4).toInt64), .long ((a1.toInt64 * 12) * a2.toInt64)], aa_H g) rfl r
    obtain ⟨hd10, n9, ln9, r⟩ := rn_ldiv rfl r
    have r : rn_s _ 88 (22, [some (.ref P), some (.int a1), some (.int a2)], [.long (((a1.toInt64 * 12) * a2.toInt64) / ((g P 4).toInt64))], aa_H g) v h := r
    obtain ⟨n11, ln11, r⟩ := rn_steps 1 (27, [some (.ref P), some (.int a1), some (.int a2)], [.int ((((a1.toInt64 * 12) * a2.toInt64) / ((g P 4).toInt64)).toInt32)], aa_H g) rfl r
    exact rn_ire rfl r
-- 87: UnequalHours Span since
noncomputable def fn_87 (g : aa_G) (P : Nat) (a1 : Int32) (a2 : Int32) : Int32 := (a2 + ((a1 - (g P 1)) * 86400)) - (g P 3)
theorem dn_87 {v : Option Value} {h : zz_H} {n : Nat} {g : aa_G} {P : Nat} {a1 : Int32} {a2 : Int32} (hP : sp_ok P) (r : rn_s n 87 (0, zz_in [.ref P, .int a1, .int a2] (zz_nl 87), [], aa_H g) v h) : ir_s g v h (fn_87 g P a1 a2) := by
  have r : rn_s n 87 (0, [some (.ref P), some (.int a1), some (.int a2)], [], aa_H g) v h := r
  unfold fn_87
  obtain ⟨n1, ln1, r⟩ := rn_steps 2 (3, [some (.ref P), some (.int a1), some (.int a2)], [.ref P, .int a1, .int a2], aa_H g) rfl r
  obtain ⟨n2, ln2, r⟩ := rn_gf rfl (sp_hk hP) (sp_hl hP) rfl r
  have r : rn_s _ 87 (6, [some (.ref P), some (.int a1), some (.int a2)], [.int (g P 1), .int a1, .int a2], aa_H g) v h := r
  obtain ⟨n3, ln3, r⟩ := rn_steps 4 (12, [some (.ref P), some (.int a1), some (.int a2)], [.ref P, .int (a2 + ((a1 - (g P 1)) * 86400))], aa_H g) rfl r
  obtain ⟨n4, ln4, r⟩ := rn_gf rfl (sp_hk hP) (sp_hl hP) rfl r
  have r : rn_s _ 87 (15, [some (.ref P), some (.int a1), some (.int a2)], [.int (g P 3), .int (a2 + ((a1 - (g P 1)) * 86400))], aa_H g) v h := r
  obtain ⟨n5, ln5, r⟩ := rn_steps 0 (16, [some (.ref P), some (.int a1), some (.int a2)], [.int ((a2 + ((a1 - (g P 1)) * 86400)) - (g P 3))], aa_H g) rfl r
  exact rn_ire rfl r
-- 66: UnequalHours isSecond
noncomputable def fn_66 (a0 : Int32) : Int32 := fn_14 a0 0 86399
theorem dn_66 {v : Option Value} {h : zz_H} {n : Nat} {g : aa_G} {a0 : Int32}  (r : rn_s n 66 (0, zz_in [.int a0] (zz_nl 66), [], aa_H g) v h) : ir_s g v h (fn_66 a0) := by
  have r : rn_s n 66 (0, [some (.int a0)], [], aa_H g) v h := r
  unfold fn_66
  obtain ⟨n1, ln1, r⟩ := rn_steps 2 (5, [some (.int a0)], [.int 86399, .int 0, .int a0], aa_H g) rfl r
  obtain ⟨_, n2, v1, h1, -, ln2, rc, r⟩ := rn_call (m2 := 14) (as := [.int a0, .int 0, .int 86399]) (rest := []) rfl rfl r
  obtain ⟨rfl, rfl⟩ := dn_14 rc
  have r : rn_s _ 66 (8, [some (.int a0)], [.int (fn_14 a0 0 86399)], aa_H g) v h := r
  exact rn_ire rfl r
-- 85: UnequalHours turn
noncomputable def fn_85_52 (g : aa_G) (b2 : Int32) (b3 : Int32) (b4 : Int32) (s0 : Int32) : Int32 × aa_G := if s0 ≠ 0 then if b4.toInt = 0 then (g 461 1, g) else if b4.toInt = 1 then (g 461 2, g) else if b4.toInt = 2 then (fn_89 g (fn_88 g 461 (fn_87 g 461 b2 b3) (g 2 1)), g) else if b4.toInt = 3 then ((fn_88 g 461 (fn_87 g 461 b2 b3) (g 2 1)) - ((fn_89 g (fn_88 g 461 (fn_87 g 461 b2 b3) (g 2 1))) * (g 2 1)), g) else if b4.toInt = 4 then (fn_88 g 461 (fn_87 g 461 b2 b3) (g 2 1), g) else (fn_87 g 461 b2 b3, g) else (-2, g)
theorem dn_85_52 {v : Option Value} {h : zz_H} {n : Nat} {g : aa_G} {b2 : Int32} {b3 : Int32} {b4 : Int32} {s0 : Int32}  (x1 x5 x6 x7 : Option Value) (jx1 : rn_jk x1) (jx5 : rn_jk x5) (jx6 : rn_jk x6) (jx7 : rn_jk x7) (r : rn_s n 85 (52, [some (.ref 1), x1, some (.int b2), some (.int b3), some (.int b4), x5, x6, x7], [.int s0], aa_H g) v h) : iw_s v h (fn_85_52 g b2 b3 b4 s0) := by
  unfold fn_85_52
  refine rn_if (iw_s v h) rfl decide_eq_true_iff.symm r (fun c30 l31n l31 r => ?_) (fun c30 l31n l31 r => ?_)
  · obtain ⟨n32, ln32, r⟩ := rn_steps 3 (64, [some (.ref 1), x1, some (.int b2), some (.int b3), some (.int b4), x5, x6, x7], [.int b3, .int b2, .ref 461], aa_H g) rfl r
    obtain ⟨_, n33, v1, h1, -, ln33, rc, r⟩ := rn_call (m2 := 87) (as := [.ref 461, .int b2, .int b3]) (rest := []) rfl rfl r
    obtain ⟨rfl, rfl⟩ := dn_87 sp_c461 rc
    have r : rn_s _ 85 (67, [some (.ref 1), x1, some (.int b2), some (.int b3), some (.int b4), x5, x6, x7], [.int (fn_87 g 461 b2 b3)], aa_H g) v h := r
    obtain ⟨n35, ln35, r⟩ := rn_isx (i := 6) rfl rfl jx5 rfl ⟨Nat.le_of_ble_eq_true rfl, Nat.le_of_ble_eq_true rfl⟩ r
    have r : rn_s _ 85 (69, [some (.ref 1), x1, some (.int b2), some (.int b3), some (.int b4), x5, some (.int (fn_87 g 461 b2 b3)), x7], [], aa_H g) v h := r
    obtain ⟨n36, ln36, r⟩ := rn_steps 5 (82, [some (.ref 1), x1, some (.int b2), some (.int b3), some (.int b4), x5, some (.int (fn_87 g 461 b2 b3)), x7], [.int (g 2 1), .int (fn_87 g 461 b2 b3), .ref 461], aa_H g) rfl r
    obtain ⟨_, n37, v1, h1, -, ln37, rc, r⟩ := rn_call (m2 := 88) (as := [.ref 461, .int (fn_87 g 461 b2 b3), .int (g 2 1)]) (rest := []) rfl rfl r
    obtain ⟨rfl, rfl⟩ := dn_88 sp_c461 rc
    have r : rn_s _ 85 (85, [some (.ref 1), x1, some (.int b2), some (.int b3), some (.int b4), x5, some (.int (fn_87 g 461 b2 b3)), x7], [.int (fn_88 g 461 (fn_87 g 461 b2 b3) (g 2 1))], aa_H g) v h := r
    obtain ⟨n39, ln39, r⟩ := rn_steps 1 (89, [some (.ref 1), x1, some (.int b2), some (.int b3), some (.int b4), x5, some (.int (fn_87 g 461 b2 b3)), some (.int (fn_88 g 461 (fn_87 g 461 b2 b3) (g 2 1)))], [.int b4], aa_H g) rfl r
    obtain ⟨n40, ln40, r⟩ := rn_swi rfl r
    refine rn_sw1 (iw_s v h) r (fun c41 r => ?_) (fun c41 r => ?_)
    · have r : rn_s _ 85 (124, [some (.ref 1), x1, some (.int b2), some (.int b3), some (.int b4), x5, some (.int (fn_87 g 461 b2 b3)), some (.int (fn_88 g 461 (fn_87 g 461 b2 b3) (g 2 1)))], [], aa_H g) v h := r
      obtain ⟨n42, ln42, r⟩ := rn_steps 2 (131, [some (.ref 1), x1, some (.int b2), some (.int b3), some (.int b4), x5, some (.int (fn_87 g 461 b2 b3)), some (.int (fn_88 g 461 (fn_87 g 461 b2 b3) (g 2 1)))], [.int (g 461 1)], aa_H g) rfl r
      exact rn_ire rfl r
    · refine rn_sw1 (iw_s v h) r (fun c43 r => ?_) (fun c43 r => ?_)
      · have r : rn_s _ 85 (132, [some (.ref 1), x1, some (.int b2), some (.int b3), some (.int b4), x5, some (.int (fn_87 g 461 b2 b3)), some (.int (fn_88 g 461 (fn_87 g 461 b2 b3) (g 2 1)))], [], aa_H g) v h := r
        obtain ⟨n44, ln44, r⟩ := rn_steps 2 (139, [some (.ref 1), x1, some (.int b2), some (.int b3), some (.int b4), x5, some (.int (fn_87 g 461 b2 b3)), some (.int (fn_88 g 461 (fn_87 g 461 b2 b3) (g 2 1)))], [.int (g 461 2)], aa_H g) rfl r
        exact rn_ire rfl r
      · refine rn_sw1 (iw_s v h) r (fun c45 r => ?_) (fun c45 r => ?_)
        · have r : rn_s _ 85 (140, [some (.ref 1), x1, some (.int b2), some (.int b3), some (.int b4), x5, some (.int (fn_87 g 461 b2 b3)), some (.int (fn_88 g 461 (fn_87 g 461 b2 b3) (g 2 1)))], [], aa_H g) v h := r
          obtain ⟨n46, ln46, r⟩ := rn_steps 2 (146, [some (.ref 1), x1, some (.int b2), some (.int b3), some (.int b4), x5, some (.int (fn_87 g 461 b2 b3)), some (.int (fn_88 g 461 (fn_87 g 461 b2 b3) (g 2 1)))], [.int (fn_88 g 461 (fn_87 g 461 b2 b3) (g 2 1)), .ref 2], aa_H g) rfl r
          obtain ⟨_, n47, v1, h1, -, ln47, rc, r⟩ := rn_call (m2 := 89) (as := [.ref 2, .int (fn_88 g 461 (fn_87 g 461 b2 b3) (g 2 1))]) (rest := []) rfl rfl r
          obtain ⟨rfl, rfl⟩ := dn_89 rc
          have r : rn_s _ 85 (149, [some (.ref 1), x1, some (.int b2), some (.int b3), some (.int b4), x5, some (.int (fn_87 g 461 b2 b3)), some (.int (fn_88 g 461 (fn_87 g 461 b2 b3) (g 2 1)))], [.int (fn_89 g (fn_88 g 461 (fn_87 g 461 b2 b3) (g 2 1)))], aa_H g) v h := r
          exact rn_ire rfl r
        · refine rn_sw1 (iw_s v h) r (fun c49 r => ?_) (fun c49 r => ?_)
          · have r : rn_s _ 85 (150, [some (.ref 1), x1, some (.int b2), some (.int b3), some (.int b4), x5, some (.int (fn_87 g 461 b2 b3)), some (.int (fn_88 g 461 (fn_87 g 461 b2 b3) (g 2 1)))], [], aa_H g) v h := r
            obtain ⟨n50, ln50, r⟩ := rn_steps 3 (158, [some (.ref 1), x1, some (.int b2), some (.int b3), some (.int b4), x5, some (.int (fn_87 g 461 b2 b3)), some (.int (fn_88 g 461 (fn_87 g 461 b2 b3) (g 2 1)))], [.int (fn_88 g 461 (fn_87 g 461 b2 b3) (g 2 1)), .ref 2, .int (fn_88 g 461 (fn_87 g 461 b2 b3) (g 2 1))], aa_H g) rfl r
            obtain ⟨_, n51, v1, h1, -, ln51, rc, r⟩ := rn_call (m2 := 89) (as := [.ref 2, .int (fn_88 g 461 (fn_87 g 461 b2 b3) (g 2 1))]) (rest := [.int (fn_88 g 461 (fn_87 g 461 b2 b3) (g 2 1))]) rfl rfl r
            obtain ⟨rfl, rfl⟩ := dn_89 rc
            have r : rn_s _ 85 (161, [some (.ref 1), x1, some (.int b2), some (.int b3), some (.int b4), x5, some (.int (fn_87 g 461 b2 b3)), some (.int (fn_88 g 461 (fn_87 g 461 b2 b3) (g 2 1)))], [.int (fn_89 g (fn_88 g 461 (fn_87 g 461 b2 b3) (g 2 1))), .int (fn_88 g 461 (fn_87 g 461 b2 b3) (g 2 1))], aa_H g) v h := r
            obtain ⟨n53, ln53, r⟩ := rn_steps 4 (170, [some (.ref 1), x1, some (.int b2), some (.int b3), some (.int b4), x5, some (.int (fn_87 g 461 b2 b3)), some (.int (fn_88 g 461 (fn_87 g 461 b2 b3) (g 2 1)))], [.int ((fn_88 g 461 (fn_87 g 461 b2 b3) (g 2 1)) - ((fn_89 g (fn_88 g 461 (fn_87 g 461 b2 b3) (g 2 1))) * (g 2 1)))], aa_H g) rfl r
            exact rn_ire rfl r
          · refine rn_sw1 (iw_s v h) r (fun c54 r => ?_) (fun c54 r => ?_)
            · have r : rn_s _ 85 (171, [some (.ref 1), x1, some (.int b2), some (.int b3), some (.int b4), x5, some (.int (fn_87 g 461 b2 b3)), some (.int (fn_88 g 461 (fn_87 g 461 b2 b3) (g 2 1)))], [], aa_H g) v h := r
              obtain ⟨n55, ln55, r⟩ := rn_steps 0 (173, [some (.ref 1), x1, some (.int b2), some (.int b3), some (.int b4), x5, some (.int (fn_87 g 461 b2 b3)), some (.int (fn_88 g 461 (fn_87 g 461 b2 b3) (g 2 1)))], [.int (fn_88 g 461 (fn_87 g 461 b2 b3) (g 2 1))], aa_H g) rfl r
              exact rn_ire rfl r
            · have r : rn_s _ 85 (174, [some (.ref 1), x1, some (.int b2), some (.int b3), some (.int b4), x5, some (.int (fn_87 g 461 b2 b3)), some (.int (fn_88 g 461 (fn_87 g 461 b2 b3) (g 2 1)))], [], aa_H g) v h := r
              obtain ⟨n56, ln56, r⟩ := rn_steps 0 (176, [some (.ref 1), x1, some (.int b2), some (.int b3), some (.int b4), x5, some (.int (fn_87 g 461 b2 b3)), some (.int (fn_88 g 461 (fn_87 g 461 b2 b3) (g 2 1)))], [.int (fn_87 g 461 b2 b3)], aa_H g) rfl r
              exact rn_ire rfl r
  · obtain ⟨n57, ln57, r⟩ := rn_steps 0 (57, [some (.ref 1), x1, some (.int b2), some (.int b3), some (.int b4), x5, x6, x7], [.int (-2)], aa_H g) rfl r
    exact rn_ire rfl r
noncomputable def fn_85 (g : aa_G) (a1 : Int32) (a2 : Int32) (a3 : Int32) (a4 : Int32) : Int32 × aa_G := (match fn_31 g a1 with | none => ((-1, g)) | some W6 => (if (fn_77 a2) = 0 then (-1, g) else if (fn_66 a3) = 0 then (-1, g) else if (fn_14 a4 0 5) ≠ 0 then fn_85_52 ((fn_86 g 461 W6 a2 a3).2) a2 a3 a4 ((fn_86 g 461 W6 a2 a3).1) else (-1, g)))
theorem dn_85 {v : Option Value} {h : zz_H} {n : Nat} {g : aa_G} {a1 : Int32} {a2 : Int32} {a3 : Int32} {a4 : Int32}  (r : rn_s n 85 (0, zz_in [.ref 1, .int a1, .int a2, .int a3, .int a4] (zz_nl 85), [], aa_H g) v h) : iw_s v h (fn_85 g a1 a2 a3 a4) := by
  have r : rn_s n 85 (0, [some (.ref 1), some (.int a1), some (.int a2), some (.int a3), some (.int a4), none, none, none], [], aa_H g) v h := r
  unfold fn_85
  obtain ⟨n1, ln1, r⟩ := rn_steps 2 (5, [some (.ref 1), some (.int a1), some (.int a2), some (.int a3), some (.int a4), none, none, none], [.int a1, .ref 2], aa_H g) rfl r
  obtain ⟨_, n2, v1, h1, -, ln2, rc, r⟩ := rn_call (m2 := 31) (as := [.ref 2, .int a1]) (rest := []) rfl rfl r
  obtain ⟨rfl, rfl, ho4⟩ := dn_31 rc
  have r : rn_s _ 85 (8, [some (.ref 1), some (.int a1), some (.int a2), some (.int a3), some (.int a4), none, none, none], [zz_val (fn_31 g a1)], aa_H g) v h := r
  cases e5 : fn_31 g a1 with
  | none =>
    rw [e5] at r
    have r : rn_s _ 85 (8, [some (.ref 1), some (.int a1), some (.int a2), some (.int a3), some (.int a4), none, none, none], [.null], aa_H g) v h := r
    dsimp only
    obtain ⟨n8, ln8, r⟩ := rn_steps 3 (40, [some (.ref 1), some (.int a1), some (.int a2), some (.int a3), some (.int a4), some (.null), none, none], [.int (-1)], aa_H g) rfl r
    exact rn_ire rfl r
  | some W6 =>
    rw [e5] at r
    have hw7 : ct_tw W6 := ho4 _ e5
    have r : rn_s _ 85 (8, [some (.ref 1), some (.int a1), some (.int a2), some (.int a3), some (.int a4), none, none, none], [.ref W6], aa_H g) v h := r
    dsimp only
    obtain ⟨n9, ln9, r⟩ := rn_steps 3 (16, [some (.ref 1), some (.int a1), some (.int a2), some (.int a3), some (.int a4), some (.ref W6), none, none], [.int a2], aa_H g) rfl r
    obtain ⟨_, n10, v1, h1, -, ln10, rc, r⟩ := rn_call (m2 := 77) (as := [.int a2]) (rest := []) rfl rfl r
    obtain ⟨rfl, rfl⟩ := dn_77 rc
    have r : rn_s _ 85 (19, [some (.ref 1), some (.int a1), some (.int a2), some (.int a3), some (.int a4), some (.ref W6), none, none], [.int (fn_77 a2)], aa_H g) v h := r
    refine rn_if (iw_s v h) rfl decide_eq_true_iff.symm r (fun c12 l13n l13 r => ?_) (fun c12 l13n l13 r => ?_)
    · obtain ⟨n14, ln14, r⟩ := rn_steps 0 (40, [some (.ref 1), some (.int a1), some (.int a2), some (.int a3), some (.int a4), some (.ref W6), none, none], [.int (-1)], aa_H g) rfl r
      exact rn_ire rfl r
    · obtain ⟨n15, ln15, r⟩ := rn_steps 0 (23, [some (.ref 1), some (.int a1), some (.int a2), some (.int a3), some (.int a4), some (.ref W6), none, none], [.int a3], aa_H g) rfl r
      obtain ⟨_, n16, v1, h1, -, ln16, rc, r⟩ := rn_call (m2 := 66) (as := [.int a3]) (rest := []) rfl rfl r
      obtain ⟨rfl, rfl⟩ := dn_66 rc
      have r : rn_s _ 85 (26, [some (.ref 1), some (.int a1), some (.int a2), some (.int a3), some (.int a4), some (.ref W6), none, none], [.int (fn_66 a3)], aa_H g) v h := r
      refine rn_if (iw_s v h) rfl decide_eq_true_iff.symm r (fun c18 l19n l19 r => ?_) (fun c18 l19n l19 r => ?_)
      · obtain ⟨n20, ln20, r⟩ := rn_steps 0 (40, [some (.ref 1), some (.int a1), some (.int a2), some (.int a3), some (.int a4), some (.ref W6), none, none], [.int (-1)], aa_H g) rfl r
        exact rn_ire rfl r
      · obtain ⟨n21, ln21, r⟩ := rn_steps 2 (33, [some (.ref 1), some (.int a1), some (.int a2), some (.int a3), some (.int a4), some (.ref W6), none, none], [.int 5, .int 0, .int a4], aa_H g) rfl r
        obtain ⟨_, n22, v1, h1, -, ln22, rc, r⟩ := rn_call (m2 := 14) (as := [.int a4, .int 0, .int 5]) (rest := []) rfl rfl r
        obtain ⟨rfl, rfl⟩ := dn_14 rc
        have r : rn_s _ 85 (36, [some (.ref 1), some (.int a1), some (.int a2), some (.int a3), some (.int a4), some (.ref W6), none, none], [.int (fn_14 a4 0 5)], aa_H g) v h := r
        refine rn_if (iw_s v h) rfl decide_eq_true_iff.symm r (fun c24 l25n l25 r => ?_) (fun c24 l25n l25 r => ?_)
        · obtain ⟨n26, ln26, r⟩ := rn_steps 4 (49, [some (.ref 1), some (.int a1), some (.int a2), some (.int a3), some (.int a4), some (.ref W6), none, none], [.int a3, .int a2, .ref W6, .ref 461], aa_H g) rfl r
          obtain ⟨_, n27, v1, h1, -, ln27, rc, r⟩ := rn_call (m2 := 86) (as := [.ref 461, .ref W6, .int a2, .int a3]) (rest := []) rfl rfl r
          obtain ⟨rfl, rfl⟩ := dn_86 sp_c461 hw7 rc
          have r : rn_s _ 85 (52, [some (.ref 1), some (.int a1), some (.int a2), some (.int a3), some (.int a4), some (.ref W6), none, none], [.int ((fn_86 g 461 W6 a2 a3).1)], aa_H ((fn_86 g 461 W6 a2 a3).2)) v h := r
          exact dn_85_52 (some (.int a1)) (some (.ref W6)) none none rn_ji rn_jr rn_jn rn_jn r
        · obtain ⟨n29, ln29, r⟩ := rn_steps 0 (40, [some (.ref 1), some (.int a1), some (.int a2), some (.int a3), some (.int a4), some (.ref W6), none, none], [.int (-1)], aa_H g) rfl r
          exact rn_ire rfl r
-- 92: UnequalHours Span secondOf
noncomputable def fn_92 (g : aa_G) (P : Nat) (a1 : Int32) (a2 : Int32) : Int32 := if (g P 0) = 0 then -2 else if 1 ≤ a2 then if 0 ≤ (lg_cmp ((((a1.toInt64 * ((g P 4).toInt64)) + (12 * a2.toInt64)) - 1) / (12 * a2.toInt64)) ((g P 4).toInt64)) then -2 else (g P 3) + (((((a1.toInt64 * ((g P 4).toInt64)) + (12 * a2.toInt64)) - 1) / (12 * a2.toInt64)).toInt32) else -2
theorem dn_92 {v : Option Value} {h : zz_H} {n : Nat} {g : aa_G} {P : Nat} {a1 : Int32} {a2 : Int32} (hP : sp_ok P) (r : rn_s n 92 (0, zz_in [.ref P, .int a1, .int a2] (zz_nl 92), [], aa_H g) v h) : ir_s g v h (fn_92 g P a1 a2) := by
  have r : rn_s n 92 (0, [some (.ref P), some (.int a1), some (.int a2), none, none, none, none], [], aa_H g) v h := r
  unfold fn_92
  obtain ⟨n1, ln1, r⟩ := rn_steps 0 (1, [some (.ref P), some (.int a1), some (.int a2), none, none, none, none], [.ref P], aa_H g) rfl r
  obtain ⟨n2, ln2, r⟩ := rn_gf rfl (sp_hk hP) (sp_hl hP) rfl r
  have r : rn_s _ 92 (4, [some (.ref P), some (.int a1), some (.int a2), none, none, none, none], [.int (g P 0)], aa_H g) v h := r
  refine rn_if (ir_s g v h) rfl decide_eq_true_iff.symm r (fun c3 l4n l4 r => ?_) (fun c3 l4n l4 r => ?_)
  · obtain ⟨n5, ln5, r⟩ := rn_steps 0 (14, [some (.ref P), some (.int a1), some (.int a2), none, none, none, none], [.int (-2)], aa_H g) rfl r
    exact rn_ire rfl r
  · obtain ⟨n6, ln6, r⟩ := rn_steps 1 (9, [some (.ref P), some (.int a1), some (.int a2), none, none, none, none], [.int 1, .int a2], aa_H g) rfl r
    refine rn_ic (ir_s g v h) rfl decide_eq_true_iff.symm r (fun c7 l8n l8 r => ?_) (fun c7 l8n l8 r => ?_)
    · obtain ⟨n9, ln9, r⟩ := rn_steps 7 (25, [some (.ref P), some (.int a1), some (.int a2), some (.long (12 * a2.toInt64)), none, none, none], [.ref P, .long a1.toInt64], aa_H g) rfl r
      obtain ⟨n10, ln10, r⟩ := rn_gf rfl (sp_hk hP) (sp_hl hP) rfl r
      have r : rn_s _ 92 (28, [some (.ref P), some (.int a1), some (.int a2), some (.long (12 * a2.toInt64)), none, none, none], [.int (g P 4), .long a1.toInt64], aa_H g) v h := r
      obtain ⟨n11, ln11, r⟩ := rn_steps 6 (35, [some (.ref P), some (.int a1), some (.int a2), some (.long (12 * a2.toInt64)), none, none, none], [.long (12 * a2.toInt64), .long (((a1.toInt64 * ((g P 4).toInt64)) + (12 * a2.toInt64)) - 1)], aa_H g) rfl r
      obtain ⟨hd13, n12, ln12, r⟩ := rn_ldiv rfl r
      have r : rn_s _ 92 (36, [some (.ref P), some (.int a1), some (.int a2), some (.long (12 * a2.toInt64)), none, none, none], [.long ((((a1.toInt64 * ((g P 4).toInt64)) + (12 * a2.toInt64)) - 1) / (12 * a2.toInt64))], aa_H g) v h := r
      obtain ⟨n14, ln14, r⟩ := rn_steps 2 (41, [some (.ref P), some (.int a1), some (.int a2), some (.long (12 * a2.toInt64)), none, some (.long ((((a1.toInt64 * ((g P 4).toInt64)) + (12 * a2.toInt64)) - 1) / (12 * a2.toInt64))), none], [.ref P, .long ((((a1.toInt64 * ((g P 4).toInt64)) + (12 * a2.toInt64)) - 1) / (12 * a2.toInt64))], aa_H g) rfl r
      obtain ⟨n15, ln15, r⟩ := rn_gf rfl (sp_hk hP) (sp_hl hP) rfl r
      have r : rn_s _ 92 (44, [some (.ref P), some (.int a1), some (.int a2), some (.long (12 * a2.toInt64)), none, some (.long ((((a1.toInt64 * ((g P 4).toInt64)) + (12 * a2.toInt64)) - 1) / (12 * a2.toInt64))), none], [.int (g P 4), .long ((((a1.toInt64 * ((g P 4).toInt64)) + (12 * a2.toInt64)) - 1) / (12 * a2.toInt64))], aa_H g) v h := r
      obtain ⟨n16, ln16, r⟩ := rn_steps 1 (46, [some (.ref P), some (.int a1), some (.int a2), some (.long (12 * a2.toInt64)), none, some (.long ((((a1.toInt64 * ((g P 4).toInt64)) + (12 * a2.toInt64)) - 1) / (12 * a2.toInt64))), none], [.int (lg_cmp ((((a1.toInt64 * ((g P 4).toInt64)) + (12 * a2.toInt64)) - 1) / (12 * a2.toInt64)) ((g P 4).toInt64))], aa_H g) rfl r
      refine rn_if (ir_s g v h) rfl decide_eq_true_iff.symm r (fun c17 l18n l18 r => ?_) (fun c17 l18n l18 r => ?_)
      · obtain ⟨n19, ln19, r⟩ := rn_steps 0 (62, [some (.ref P), some (.int a1), some (.int a2), some (.long (12 * a2.toInt64)), none, some (.long ((((a1.toInt64 * ((g P 4).toInt64)) + (12 * a2.toInt64)) - 1) / (12 * a2.toInt64))), none], [.int (-2)], aa_H g) rfl r
        exact rn_ire rfl r
      · obtain ⟨n20, ln20, r⟩ := rn_steps 0 (50, [some (.ref P), some (.int a1), some (.int a2), some (.long (12 * a2.toInt64)), none, some (.long ((((a1.toInt64 * ((g P 4).toInt64)) + (12 * a2.toInt64)) - 1) / (12 * a2.toInt64))), none], [.ref P], aa_H g) rfl r
        obtain ⟨n21, ln21, r⟩ := rn_gf rfl (sp_hk hP) (sp_hl hP) rfl r
        have r : rn_s _ 92 (53, [some (.ref P), some (.int a1), some (.int a2), some (.long (12 * a2.toInt64)), none, some (.long ((((a1.toInt64 * ((g P 4).toInt64)) + (12 * a2.toInt64)) - 1) / (12 * a2.toInt64))), none], [.int (g P 3)], aa_H g) v h := r
        obtain ⟨n22, ln22, r⟩ := rn_steps 3 (62, [some (.ref P), some (.int a1), some (.int a2), some (.long (12 * a2.toInt64)), none, some (.long ((((a1.toInt64 * ((g P 4).toInt64)) + (12 * a2.toInt64)) - 1) / (12 * a2.toInt64))), none], [.int ((g P 3) + (((((a1.toInt64 * ((g P 4).toInt64)) + (12 * a2.toInt64)) - 1) / (12 * a2.toInt64)).toInt32))], aa_H g) rfl r
        exact rn_ire rfl r
    · obtain ⟨n23, ln23, r⟩ := rn_steps 0 (14, [some (.ref P), some (.int a1), some (.int a2), none, none, none, none], [.int (-2)], aa_H g) rfl r
      exact rn_ire rfl r
-- 91: UnequalHours isPlace
noncomputable def fn_91 (g : aa_G) (a1 : Int32) (a2 : Int32) : Int32 := if (fn_14 a1 0 1) = 0 then 0 else if (fn_14 a2 0 ((12 * (g 2 1)) - 1)) = 0 then 0 else 1
theorem dn_91 {v : Option Value} {h : zz_H} {n : Nat} {g : aa_G} {a1 : Int32} {a2 : Int32}  (r : rn_s n 91 (0, zz_in [.ref 1, .int a1, .int a2] (zz_nl 91), [], aa_H g) v h) : ir_s g v h (fn_91 g a1 a2) := by
  have r : rn_s n 91 (0, [some (.ref 1), some (.int a1), some (.int a2)], [], aa_H g) v h := r
  unfold fn_91
  obtain ⟨n1, ln1, r⟩ := rn_steps 2 (3, [some (.ref 1), some (.int a1), some (.int a2)], [.int 1, .int 0, .int a1], aa_H g) rfl r
  obtain ⟨_, n2, v1, h1, -, ln2, rc, r⟩ := rn_call (m2 := 14) (as := [.int a1, .int 0, .int 1]) (rest := []) rfl rfl r
  obtain ⟨rfl, rfl⟩ := dn_14 rc
  have r : rn_s _ 91 (6, [some (.ref 1), some (.int a1), some (.int a2)], [.int (fn_14 a1 0 1)], aa_H g) v h := r
  refine rn_if (ir_s g v h) rfl decide_eq_true_iff.symm r (fun c4 l5n l5 r => ?_) (fun c4 l5n l5 r => ?_)
  · obtain ⟨n6, ln6, r⟩ := rn_steps 0 (34, [some (.ref 1), some (.int a1), some (.int a2)], [.int 0], aa_H g) rfl r
    exact rn_ire rfl r
  · obtain ⟨n7, ln7, r⟩ := rn_steps 8 (23, [some (.ref 1), some (.int a1), some (.int a2)], [.int ((12 * (g 2 1)) - 1), .int 0, .int a2], aa_H g) rfl r
    obtain ⟨_, n8, v1, h1, -, ln8, rc, r⟩ := rn_call (m2 := 14) (as := [.int a2, .int 0, .int ((12 * (g 2 1)) - 1)]) (rest := []) rfl rfl r
    obtain ⟨rfl, rfl⟩ := dn_14 rc
    have r : rn_s _ 91 (26, [some (.ref 1), some (.int a1), some (.int a2)], [.int (fn_14 a2 0 ((12 * (g 2 1)) - 1))], aa_H g) v h := r
    refine rn_if (ir_s g v h) rfl decide_eq_true_iff.symm r (fun c10 l11n l11 r => ?_) (fun c10 l11n l11 r => ?_)
    · obtain ⟨n12, ln12, r⟩ := rn_steps 0 (34, [some (.ref 1), some (.int a1), some (.int a2)], [.int 0], aa_H g) rfl r
      exact rn_ire rfl r
    · obtain ⟨n13, ln13, r⟩ := rn_steps 1 (34, [some (.ref 1), some (.int a1), some (.int a2)], [.int 1], aa_H g) rfl r
      exact rn_ire rfl r
-- 90: UnequalHours back
noncomputable def fn_90_45 (g : aa_G) (b4 : Int32) : Int32 × aa_G := (fn_92 g 461 b4 (g 2 1), g)
theorem dn_90_45 {v : Option Value} {h : zz_H} {n : Nat} {g : aa_G} {b4 : Int32}  (x1 x2 x3 x5 : Option Value) (jx1 : rn_jk x1) (jx2 : rn_jk x2) (jx3 : rn_jk x3) (jx5 : rn_jk x5) (r : rn_s n 90 (45, [some (.ref 1), x1, x2, x3, some (.int b4), x5], [], aa_H g) v h) : iw_s v h (fn_90_45 g b4) := by
  unfold fn_90_45
  obtain ⟨n24, ln24, r⟩ := rn_steps 5 (58, [some (.ref 1), x1, x2, x3, some (.int b4), x5], [.int (g 2 1), .int b4, .ref 461], aa_H g) rfl r
  obtain ⟨_, n25, v1, h1, -, ln25, rc, r⟩ := rn_call (m2 := 92) (as := [.ref 461, .int b4, .int (g 2 1)]) (rest := []) rfl rfl r
  obtain ⟨rfl, rfl⟩ := dn_92 sp_c461 rc
  have r : rn_s _ 90 (61, [some (.ref 1), x1, x2, x3, some (.int b4), x5], [.int (fn_92 g 461 b4 (g 2 1))], aa_H g) v h := r
  exact rn_ire rfl r
noncomputable def fn_90 (g : aa_G) (a1 : Int32) (a2 : Int32) (a3 : Int32) (a4 : Int32) : Int32 × aa_G := (match fn_31 g a1 with | none => ((-1, g)) | some W6 => (if (fn_77 a2) = 0 then (-1, g) else if (fn_91 g a3 a4) ≠ 0 then fn_90_45 (fn_78 g 461 (some W6) a2 a3) a4 else (-1, g)))
theorem dn_90 {v : Option Value} {h : zz_H} {n : Nat} {g : aa_G} {a1 : Int32} {a2 : Int32} {a3 : Int32} {a4 : Int32}  (r : rn_s n 90 (0, zz_in [.ref 1, .int a1, .int a2, .int a3, .int a4] (zz_nl 90), [], aa_H g) v h) : iw_s v h (fn_90 g a1 a2 a3 a4) := by
  have r : rn_s n 90 (0, [some (.ref 1), some (.int a1), some (.int a2), some (.int a3), some (.int a4), none], [], aa_H g) v h := r
  unfold fn_90
  obtain ⟨n1, ln1, r⟩ := rn_steps 2 (5, [some (.ref 1), some (.int a1), some (.int a2), some (.int a3), some (.int a4), none], [.int a1, .ref 2], aa_H g) rfl r
  obtain ⟨_, n2, v1, h1, -, ln2, rc, r⟩ := rn_call (m2 := 31) (as := [.ref 2, .int a1]) (rest := []) rfl rfl r
  obtain ⟨rfl, rfl, ho4⟩ := dn_31 rc
  have r : rn_s _ 90 (8, [some (.ref 1), some (.int a1), some (.int a2), some (.int a3), some (.int a4), none], [zz_val (fn_31 g a1)], aa_H g) v h := r
  cases e5 : fn_31 g a1 with
  | none =>
    rw [e5] at r
    have r : rn_s _ 90 (8, [some (.ref 1), some (.int a1), some (.int a2), some (.int a3), some (.int a4), none], [.null], aa_H g) v h := r
    dsimp only
    obtain ⟨n8, ln8, r⟩ := rn_steps 3 (33, [some (.ref 1), some (.int a1), some (.int a2), some (.int a3), some (.int a4), some (.null)], [.int (-1)], aa_H g) rfl r
    exact rn_ire rfl r
  | some W6 =>
    rw [e5] at r
    have hw7 : ct_tw W6 := ho4 _ e5
    have r : rn_s _ 90 (8, [some (.ref 1), some (.int a1), some (.int a2), some (.int a3), some (.int a4), none], [.ref W6], aa_H g) v h := r
    dsimp only
    obtain ⟨n9, ln9, r⟩ := rn_steps 3 (16, [some (.ref 1), some (.int a1), some (.int a2), some (.int a3), some (.int a4), some (.ref W6)], [.int a2], aa_H g) rfl r
    obtain ⟨_, n10, v1, h1, -, ln10, rc, r⟩ := rn_call (m2 := 77) (as := [.int a2]) (rest := []) rfl rfl r
    obtain ⟨rfl, rfl⟩ := dn_77 rc
    have r : rn_s _ 90 (19, [some (.ref 1), some (.int a1), some (.int a2), some (.int a3), some (.int a4), some (.ref W6)], [.int (fn_77 a2)], aa_H g) v h := r
    refine rn_if (iw_s v h) rfl decide_eq_true_iff.symm r (fun c12 l13n l13 r => ?_) (fun c12 l13n l13 r => ?_)
    · obtain ⟨n14, ln14, r⟩ := rn_steps 0 (33, [some (.ref 1), some (.int a1), some (.int a2), some (.int a3), some (.int a4), some (.ref W6)], [.int (-1)], aa_H g) rfl r
      exact rn_ire rfl r
    · obtain ⟨n15, ln15, r⟩ := rn_steps 2 (26, [some (.ref 1), some (.int a1), some (.int a2), some (.int a3), some (.int a4), some (.ref W6)], [.int a4, .int a3, .ref 1], aa_H g) rfl r
      obtain ⟨_, n16, v1, h1, -, ln16, rc, r⟩ := rn_call (m2 := 91) (as := [.ref 1, .int a3, .int a4]) (rest := []) rfl rfl r
      obtain ⟨rfl, rfl⟩ := dn_91 rc
      have r : rn_s _ 90 (29, [some (.ref 1), some (.int a1), some (.int a2), some (.int a3), some (.int a4), some (.ref W6)], [.int (fn_91 g a3 a4)], aa_H g) v h := r
      refine rn_if (iw_s v h) rfl decide_eq_true_iff.symm r (fun c18 l19n l19 r => ?_) (fun c18 l19n l19 r => ?_)
      · obtain ⟨n20, ln20, r⟩ := rn_steps 4 (42, [some (.ref 1), some (.int a1), some (.int a2), some (.int a3), some (.int a4), some (.ref W6)], [.int a3, .int a2, .ref W6, .ref 461], aa_H g) rfl r
        obtain ⟨_, n21, v1, h1, -, ln21, rc, r⟩ := rn_call (m2 := 78) (as := [.ref 461, .ref W6, .int a2, .int a3]) (rest := []) rfl rfl r
        obtain ⟨rfl, rfl⟩ := dn_78 sp_c461 (rn_o1 hw7) rc
        have r : rn_s _ 90 (45, [some (.ref 1), some (.int a1), some (.int a2), some (.int a3), some (.int a4), some (.ref W6)], [], aa_H (fn_78 g 461 (some W6) a2 a3)) v h := r
        exact dn_90_45 (some (.int a1)) (some (.int a2)) (some (.int a3)) (some (.ref W6)) rn_ji rn_ji rn_ji rn_jr r
      · obtain ⟨n23, ln23, r⟩ := rn_steps 0 (33, [some (.ref 1), some (.int a1), some (.int a2), some (.int a3), some (.int a4), some (.ref W6)], [.int (-1)], aa_H g) rfl r
        exact rn_ire rfl r
-- 94: UnequalHours ahead
noncomputable def fn_94 (g : aa_G) (T : Nat) (T2 : Nat) : Int32 := (g T2 0) - (g T 0)
theorem dn_94 {v : Option Value} {h : zz_H} {n : Nat} {g : aa_G} {T : Nat} {T2 : Nat} (hT : ct_tw T) (hT2 : ct_tw T2) (r : rn_s n 94 (0, zz_in [.ref T, .ref T2] (zz_nl 94), [], aa_H g) v h) : ir_s g v h (fn_94 g T T2) := by
  have r : rn_s n 94 (0, [some (.ref T), some (.ref T2)], [], aa_H g) v h := r
  unfold fn_94
  obtain ⟨n1, ln1, r⟩ := rn_steps 0 (1, [some (.ref T), some (.ref T2)], [.ref T2], aa_H g) rfl r
  obtain ⟨n2, ln2, r⟩ := rn_gf rfl (tw_hk hT2) (tw_hl hT2) rfl r
  have r : rn_s _ 94 (4, [some (.ref T), some (.ref T2)], [.int (g T2 0)], aa_H g) v h := r
  obtain ⟨n3, ln3, r⟩ := rn_steps 0 (5, [some (.ref T), some (.ref T2)], [.ref T, .int (g T2 0)], aa_H g) rfl r
  obtain ⟨n4, ln4, r⟩ := rn_gf rfl (tw_hk hT) (tw_hl hT) rfl r
  have r : rn_s _ 94 (8, [some (.ref T), some (.ref T2)], [.int (g T 0), .int (g T2 0)], aa_H g) v h := r
  obtain ⟨n5, ln5, r⟩ := rn_steps 0 (9, [some (.ref T), some (.ref T2)], [.int ((g T2 0) - (g T 0))], aa_H g) rfl r
  exact rn_ire rfl r
-- 93: UnequalHours over
noncomputable def fn_93 (g : aa_G) (a1 : Int32) (a2 : Int32) (a3 : Int32) (a4 : Int32) (a5 : Int32) : Int32 := (match fn_31 g a1 with | none => ((match fn_31 g a4 with | none => (-1000000) | some W13 => (-1000000))) | some W6 => ((match fn_31 g a4 with | none => (-1000000) | some W22 => (if (fn_77 a2) = 0 then -1000000 else if (fn_66 a3) = 0 then -1000000 else if (fn_14 a5 0 1) ≠ 0 then if a5 ≠ 0 then fn_81 (a3 + (fn_94 g W6 W22)) 86400 else a2 + (fn_82 (a3 + (fn_94 g W6 W22)) 86400) else -1000000))))
theorem dn_93 {v : Option Value} {h : zz_H} {n : Nat} {g : aa_G} {a1 : Int32} {a2 : Int32} {a3 : Int32} {a4 : Int32} {a5 : Int32}  (r : rn_s n 93 (0, zz_in [.ref 1, .int a1, .int a2, .int a3, .int a4, .int a5] (zz_nl 93), [], aa_H g) v h) : ir_s g v h (fn_93 g a1 a2 a3 a4 a5) := by
  have r : rn_s n 93 (0, [some (.ref 1), some (.int a1), some (.int a2), some (.int a3), some (.int a4), some (.int a5), none, none, none], [], aa_H g) v h := r
  unfold fn_93
  obtain ⟨n1, ln1, r⟩ := rn_steps 2 (5, [some (.ref 1), some (.int a1), some (.int a2), some (.int a3), some (.int a4), some (.int a5), none, none, none], [.int a1, .ref 2], aa_H g) rfl r
  obtain ⟨_, n2, v1, h1, -, ln2, rc, r⟩ := rn_call (m2 := 31) (as := [.ref 2, .int a1]) (rest := []) rfl rfl r
  obtain ⟨rfl, rfl, ho4⟩ := dn_31 rc
  have r : rn_s _ 93 (8, [some (.ref 1), some (.int a1), some (.int a2), some (.int a3), some (.int a4), some (.int a5), none, none, none], [zz_val (fn_31 g a1)], aa_H g) v h := r
  cases e5 : fn_31 g a1 with
  | none =>
    rw [e5] at r
    have r : rn_s _ 93 (8, [some (.ref 1), some (.int a1), some (.int a2), some (.int a3), some (.int a4), some (.int a5), none, none, none], [.null], aa_H g) v h := r
    dsimp only
    obtain ⟨n8, ln8, r⟩ := rn_steps 3 (16, [some (.ref 1), some (.int a1), some (.int a2), some (.int a3), some (.int a4), some (.int a5), some (.null), none, none], [.int a4, .ref 2], aa_H g) rfl r
    obtain ⟨_, n9, v1, h1, -, ln9, rc, r⟩ := rn_call (m2 := 31) (as := [.ref 2, .int a4]) (rest := []) rfl rfl r
    obtain ⟨rfl, rfl, ho11⟩ := dn_31 rc
    have r : rn_s _ 93 (19, [some (.ref 1), some (.int a1), some (.int a2), some (.int a3), some (.int a4), some (.int a5), some (.null), none, none], [zz_val (fn_31 g a4)], aa_H g) v h := r
    cases e12 : fn_31 g a4 with
    | none =>
      rw [e12] at r
      have r : rn_s _ 93 (19, [some (.ref 1), some (.int a1), some (.int a2), some (.int a3), some (.int a4), some (.int a5), some (.null), none, none], [.null], aa_H g) v h := r
      dsimp only
      obtain ⟨n15, ln15, r⟩ := rn_steps 3 (57, [some (.ref 1), some (.int a1), some (.int a2), some (.int a3), some (.int a4), some (.int a5), some (.null), some (.null), none], [.int (-1000000)], aa_H g) rfl r
      exact rn_ire rfl r
    | some W13 =>
      rw [e12] at r
      have hw14 : ct_tw W13 := ho11 _ e12
      have r : rn_s _ 93 (19, [some (.ref 1), some (.int a1), some (.int a2), some (.int a3), some (.int a4), some (.int a5), some (.null), none, none], [.ref W13], aa_H g) v h := r
      dsimp only
      obtain ⟨n16, ln16, r⟩ := rn_steps 3 (57, [some (.ref 1), some (.int a1), some (.int a2), some (.int a3), some (.int a4), some (.int a5), some (.null), some (.ref W13), none], [.int (-1000000)], aa_H g) rfl r
      exact rn_ire rfl r
  | some W6 =>
    rw [e5] at r
    have hw7 : ct_tw W6 := ho4 _ e5
    have r : rn_s _ 93 (8, [some (.ref 1), some (.int a1), some (.int a2), some (.int a3), some (.int a4), some (.int a5), none, none, none], [.ref W6], aa_H g) v h := r
    dsimp only
    obtain ⟨n17, ln17, r⟩ := rn_steps 3 (16, [some (.ref 1), some (.int a1), some (.int a2), some (.int a3), some (.int a4), some (.int a5), some (.ref W6), none, none], [.int a4, .ref 2], aa_H g) rfl r
    obtain ⟨_, n18, v1, h1, -, ln18, rc, r⟩ := rn_call (m2 := 31) (as := [.ref 2, .int a4]) (rest := []) rfl rfl r
    obtain ⟨rfl, rfl, ho20⟩ := dn_31 rc
    have r : rn_s _ 93 (19, [some (.ref 1), some (.int a1), some (.int a2), some (.int a3), some (.int a4), some (.int a5), some (.ref W6), none, none], [zz_val (fn_31 g a4)], aa_H g) v h := r
    cases e21 : fn_31 g a4 with
    | none =>
      rw [e21] at r
      have r : rn_s _ 93 (19, [some (.ref 1), some (.int a1), some (.int a2), some (.int a3), some (.int a4), some (.int a5), some (.ref W6), none, none], [.null], aa_H g) v h := r
      dsimp only
      obtain ⟨n24, ln24, r⟩ := rn_steps 5 (57, [some (.ref 1), some (.int a1), some (.int a2), some (.int a3), some (.int a4), some (.int a5), some (.ref W6), some (.null), none], [.int (-1000000)], aa_H g) rfl r
      exact rn_ire rfl r
    | some W22 =>
      rw [e21] at r
      have hw23 : ct_tw W22 := ho20 _ e21
      have r : rn_s _ 93 (19, [some (.ref 1), some (.int a1), some (.int a2), some (.int a3), some (.int a4), some (.int a5), some (.ref W6), none, none], [.ref W22], aa_H g) v h := r
      dsimp only
      obtain ⟨n25, ln25, r⟩ := rn_steps 5 (32, [some (.ref 1), some (.int a1), some (.int a2), some (.int a3), some (.int a4), some (.int a5), some (.ref W6), some (.ref W22), none], [.int a2], aa_H g) rfl r
      obtain ⟨_, n26, v1, h1, -, ln26, rc, r⟩ := rn_call (m2 := 77) (as := [.int a2]) (rest := []) rfl rfl r
      obtain ⟨rfl, rfl⟩ := dn_77 rc
      have r : rn_s _ 93 (35, [some (.ref 1), some (.int a1), some (.int a2), some (.int a3), some (.int a4), some (.int a5), some (.ref W6), some (.ref W22), none], [.int (fn_77 a2)], aa_H g) v h := r
      refine rn_if (ir_s g v h) rfl decide_eq_true_iff.symm r (fun c28 l29n l29 r => ?_) (fun c28 l29n l29 r => ?_)
      · obtain ⟨n30, ln30, r⟩ := rn_steps 0 (57, [some (.ref 1), some (.int a1), some (.int a2), some (.int a3), some (.int a4), some (.int a5), some (.ref W6), some (.ref W22), none], [.int (-1000000)], aa_H g) rfl r
        exact rn_ire rfl r
      · obtain ⟨n31, ln31, r⟩ := rn_steps 0 (39, [some (.ref 1), some (.int a1), some (.int a2), some (.int a3), some (.int a4), some (.int a5), some (.ref W6), some (.ref W22), none], [.int a3], aa_H g) rfl r
        obtain ⟨_, n32, v1, h1, -, ln32, rc, r⟩ := rn_call (m2 := 66) (as := [.int a3]) (rest := []) rfl rfl r
        obtain ⟨rfl, rfl⟩ := dn_66 rc
        have r : rn_s _ 93 (42, [some (.ref 1), some (.int a1), some (.int a2), some (.int a3), some (.int a4), some (.int a5), some (.ref W6), some (.ref W22), none], [.int (fn_66 a3)], aa_H g) v h := r
        refine rn_if (ir_s g v h) rfl decide_eq_true_iff.symm r (fun c34 l35n l35 r => ?_) (fun c34 l35n l35 r => ?_)
        · obtain ⟨n36, ln36, r⟩ := rn_steps 0 (57, [some (.ref 1), some (.int a1), some (.int a2), some (.int a3), some (.int a4), some (.int a5), some (.ref W6), some (.ref W22), none], [.int (-1000000)], aa_H g) rfl r
          exact rn_ire rfl r
        · obtain ⟨n37, ln37, r⟩ := rn_steps 2 (49, [some (.ref 1), some (.int a1), some (.int a2), some (.int a3), some (.int a4), some (.int a5), some (.ref W6), some (.ref W22), none], [.int 1, .int 0, .int a5], aa_H g) rfl r
          obtain ⟨_, n38, v1, h1, -, ln38, rc, r⟩ := rn_call (m2 := 14) (as := [.int a5, .int 0, .int 1]) (rest := []) rfl rfl r
          obtain ⟨rfl, rfl⟩ := dn_14 rc
          have r : rn_s _ 93 (52, [some (.ref 1), some (.int a1), some (.int a2), some (.int a3), some (.int a4), some (.int a5), some (.ref W6), some (.ref W22), none], [.int (fn_14 a5 0 1)], aa_H g) v h := r
          refine rn_if (ir_s g v h) rfl decide_eq_true_iff.symm r (fun c40 l41n l41 r => ?_) (fun c40 l41n l41 r => ?_)
          · obtain ⟨n42, ln42, r⟩ := rn_steps 2 (63, [some (.ref 1), some (.int a1), some (.int a2), some (.int a3), some (.int a4), some (.int a5), some (.ref W6), some (.ref W22), none], [.ref W22, .ref W6, .int a3], aa_H g) rfl r
            obtain ⟨_, n43, v1, h1, -, ln43, rc, r⟩ := rn_call (m2 := 94) (as := [.ref W6, .ref W22]) (rest := [.int a3]) rfl rfl r
            obtain ⟨rfl, rfl⟩ := dn_94 hw7 hw23 rc
            have r : rn_s _ 93 (66, [some (.ref 1), some (.int a1), some (.int a2), some (.int a3), some (.int a4), some (.int a5), some (.ref W6), some (.ref W22), none], [.int (fn_94 g W6 W22), .int a3], aa_H g) v h := r
            obtain ⟨n45, ln45, r⟩ := rn_steps 2 (71, [some (.ref 1), some (.int a1), some (.int a2), some (.int a3), some (.int a4), some (.int a5), some (.ref W6), some (.ref W22), some (.int (a3 + (fn_94 g W6 W22)))], [.int a5], aa_H g) rfl r
            refine rn_if (ir_s g v h) rfl decide_eq_true_iff.symm r (fun c46 l47n l47 r => ?_) (fun c46 l47n l47 r => ?_)
            · obtain ⟨n48, ln48, r⟩ := rn_steps 1 (90, [some (.ref 1), some (.int a1), some (.int a2), some (.int a3), some (.int a4), some (.int a5), some (.ref W6), some (.ref W22), some (.int (a3 + (fn_94 g W6 W22)))], [.int 86400, .int (a3 + (fn_94 g W6 W22))], aa_H g) rfl r
              obtain ⟨_, n49, v1, h1, -, ln49, rc, r⟩ := rn_call (m2 := 81) (as := [.int (a3 + (fn_94 g W6 W22)), .int 86400]) (rest := []) rfl rfl r
              obtain ⟨rfl, rfl⟩ := dn_81 rc
              have r : rn_s _ 93 (93, [some (.ref 1), some (.int a1), some (.int a2), some (.int a3), some (.int a4), some (.int a5), some (.ref W6), some (.ref W22), some (.int (a3 + (fn_94 g W6 W22)))], [.int (fn_81 (a3 + (fn_94 g W6 W22)) 86400)], aa_H g) v h := r
              exact rn_ire rfl r
            · obtain ⟨n51, ln51, r⟩ := rn_steps 2 (79, [some (.ref 1), some (.int a1), some (.int a2), some (.int a3), some (.int a4), some (.int a5), some (.ref W6), some (.ref W22), some (.int (a3 + (fn_94 g W6 W22)))], [.int 86400, .int (a3 + (fn_94 g W6 W22)), .int a2], aa_H g) rfl r
              obtain ⟨_, n52, v1, h1, -, ln52, rc, r⟩ := rn_call (m2 := 82) (as := [.int (a3 + (fn_94 g W6 W22)), .int 86400]) (rest := [.int a2]) rfl rfl r
              obtain ⟨rfl, rfl⟩ := dn_82 rc
              have r : rn_s _ 93 (82, [some (.ref 1), some (.int a1), some (.int a2), some (.int a3), some (.int a4), some (.int a5), some (.ref W6), some (.ref W22), some (.int (a3 + (fn_94 g W6 W22)))], [.int (fn_82 (a3 + (fn_94 g W6 W22)) 86400), .int a2], aa_H g) v h := r
              obtain ⟨n54, ln54, r⟩ := rn_steps 1 (93, [some (.ref 1), some (.int a1), some (.int a2), some (.int a3), some (.int a4), some (.int a5), some (.ref W6), some (.ref W22), some (.int (a3 + (fn_94 g W6 W22)))], [.int (a2 + (fn_82 (a3 + (fn_94 g W6 W22)) 86400))], aa_H g) rfl r
              exact rn_ire rfl r
          · obtain ⟨n55, ln55, r⟩ := rn_steps 0 (57, [some (.ref 1), some (.int a1), some (.int a2), some (.int a3), some (.int a4), some (.int a5), some (.ref W6), some (.ref W22), none], [.int (-1000000)], aa_H g) rfl r
            exact rn_ire rfl r
-- 95: UnequalHours date
noncomputable def fn_95_79 (g : aa_G) (b2 : Int32) (b3 : Int32) (b4 : Int32) : Int32 × aa_G := if (g 461 0) ≠ 0 then if b4 ≠ 1 then if b3 < ((g 461 3) + (g 461 4)) then (b2, g) else (b2 + 1, g) else if b3 < (g 461 3) then (b2 - 1, g) else (b2, g) else (-2, g)
theorem dn_95_79 {v : Option Value} {h : zz_H} {n : Nat} {g : aa_G} {b2 : Int32} {b3 : Int32} {b4 : Int32}  (x1 x5 : Option Value) (jx1 : rn_jk x1) (jx5 : rn_jk x5) (r : rn_s n 95 (79, [some (.ref 1), x1, some (.int b2), some (.int b3), some (.int b4), x5], [], aa_H g) v h) : iw_s v h (fn_95_79 g b2 b3 b4) := by
  unfold fn_95_79
  obtain ⟨n42, ln42, r⟩ := rn_steps 2 (86, [some (.ref 1), x1, some (.int b2), some (.int b3), some (.int b4), x5], [.int (g 461 0)], aa_H g) rfl r
  refine rn_if (iw_s v h) rfl decide_eq_true_iff.symm r (fun c43 l44n l44 r => ?_) (fun c43 l44n l44 r => ?_)
  · obtain ⟨n45, ln45, r⟩ := rn_steps 1 (95, [some (.ref 1), x1, some (.int b2), some (.int b3), some (.int b4), x5], [.int 1, .int b4], aa_H g) rfl r
    refine rn_ic (iw_s v h) rfl decide_eq_true_iff.symm r (fun c46 l47n l47 r => ?_) (fun c46 l47n l47 r => ?_)
    · obtain ⟨n48, ln48, r⟩ := rn_steps 7 (133, [some (.ref 1), x1, some (.int b2), some (.int b3), some (.int b4), x5], [.int ((g 461 3) + (g 461 4)), .int b3], aa_H g) rfl r
      refine rn_ic (iw_s v h) rfl decide_eq_true_iff.symm r (fun c49 l50n l50 r => ?_) (fun c49 l50n l50 r => ?_)
      · obtain ⟨n51, ln51, r⟩ := rn_steps 0 (143, [some (.ref 1), x1, some (.int b2), some (.int b3), some (.int b4), x5], [.int b2], aa_H g) rfl r
        exact rn_ire rfl r
      · obtain ⟨n52, ln52, r⟩ := rn_steps 3 (143, [some (.ref 1), x1, some (.int b2), some (.int b3), some (.int b4), x5], [.int (b2 + 1)], aa_H g) rfl r
        exact rn_ire rfl r
    · obtain ⟨n53, ln53, r⟩ := rn_steps 3 (106, [some (.ref 1), x1, some (.int b2), some (.int b3), some (.int b4), x5], [.int (g 461 3), .int b3], aa_H g) rfl r
      refine rn_ic (iw_s v h) rfl decide_eq_true_iff.symm r (fun c54 l55n l55 r => ?_) (fun c54 l55n l55 r => ?_)
      · obtain ⟨n56, ln56, r⟩ := rn_steps 2 (116, [some (.ref 1), x1, some (.int b2), some (.int b3), some (.int b4), x5], [.int (b2 - 1)], aa_H g) rfl r
        exact rn_ire rfl r
      · obtain ⟨n57, ln57, r⟩ := rn_steps 1 (116, [some (.ref 1), x1, some (.int b2), some (.int b3), some (.int b4), x5], [.int b2], aa_H g) rfl r
        exact rn_ire rfl r
  · obtain ⟨n58, ln58, r⟩ := rn_steps 0 (91, [some (.ref 1), x1, some (.int b2), some (.int b3), some (.int b4), x5], [.int (-2)], aa_H g) rfl r
    exact rn_ire rfl r
noncomputable def fn_95 (g : aa_G) (a1 : Int32) (a2 : Int32) (a3 : Int32) (a4 : Int32) : Int32 × aa_G := (match fn_31 g a1 with | none => ((-1, g)) | some W6 => (if (fn_77 a2) = 0 then (-1, g) else if (fn_66 a3) = 0 then (-1, g) else if (fn_14 a4 0 3) ≠ 0 then if a4 ≠ 0 then if a4 ≠ 3 then fn_95_79 (fn_78 g 461 (some W6) a2 0) a2 a3 a4 else if a3 < 43200 then (a2 - 1, g) else (a2, g) else (a2, g) else (-1, g)))
theorem dn_95 {v : Option Value} {h : zz_H} {n : Nat} {g : aa_G} {a1 : Int32} {a2 : Int32} {a3 : Int32} {a4 : Int32}  (r : rn_s n 95 (0, zz_in [.ref 1, .int a1, .int a2, .int a3, .int a4] (zz_nl 95), [], aa_H g) v h) : iw_s v h (fn_95 g a1 a2 a3 a4) := by
  have r : rn_s n 95 (0, [some (.ref 1), some (.int a1), some (.int a2), some (.int a3), some (.int a4), none], [], aa_H g) v h := r
  unfold fn_95
  obtain ⟨n1, ln1, r⟩ := rn_steps 2 (5, [some (.ref 1), some (.int a1), some (.int a2), some (.int a3), some (.int a4), none], [.int a1, .ref 2], aa_H g) rfl r
  obtain ⟨_, n2, v1, h1, -, ln2, rc, r⟩ := rn_call (m2 := 31) (as := [.ref 2, .int a1]) (rest := []) rfl rfl r
  obtain ⟨rfl, rfl, ho4⟩ := dn_31 rc
  have r : rn_s _ 95 (8, [some (.ref 1), some (.int a1), some (.int a2), some (.int a3), some (.int a4), none], [zz_val (fn_31 g a1)], aa_H g) v h := r
  cases e5 : fn_31 g a1 with
  | none =>
    rw [e5] at r
    have r : rn_s _ 95 (8, [some (.ref 1), some (.int a1), some (.int a2), some (.int a3), some (.int a4), none], [.null], aa_H g) v h := r
    dsimp only
    obtain ⟨n8, ln8, r⟩ := rn_steps 3 (40, [some (.ref 1), some (.int a1), some (.int a2), some (.int a3), some (.int a4), some (.null)], [.int (-1)], aa_H g) rfl r
    exact rn_ire rfl r
  | some W6 =>
    rw [e5] at r
    have hw7 : ct_tw W6 := ho4 _ e5
    have r : rn_s _ 95 (8, [some (.ref 1), some (.int a1), some (.int a2), some (.int a3), some (.int a4), none], [.ref W6], aa_H g) v h := r
    dsimp only
    obtain ⟨n9, ln9, r⟩ := rn_steps 3 (16, [some (.ref 1), some (.int a1), some (.int a2), some (.int a3), some (.int a4), some (.ref W6)], [.int a2], aa_H g) rfl r
    obtain ⟨_, n10, v1, h1, -, ln10, rc, r⟩ := rn_call (m2 := 77) (as := [.int a2]) (rest := []) rfl rfl r
    obtain ⟨rfl, rfl⟩ := dn_77 rc
    have r : rn_s _ 95 (19, [some (.ref 1), some (.int a1), some (.int a2), some (.int a3), some (.int a4), some (.ref W6)], [.int (fn_77 a2)], aa_H g) v h := r
    refine rn_if (iw_s v h) rfl decide_eq_true_iff.symm r (fun c12 l13n l13 r => ?_) (fun c12 l13n l13 r => ?_)
    · obtain ⟨n14, ln14, r⟩ := rn_steps 0 (40, [some (.ref 1), some (.int a1), some (.int a2), some (.int a3), some (.int a4), some (.ref W6)], [.int (-1)], aa_H g) rfl r
      exact rn_ire rfl r
    · obtain ⟨n15, ln15, r⟩ := rn_steps 0 (23, [some (.ref 1), some (.int a1), some (.int a2), some (.int a3), some (.int a4), some (.ref W6)], [.int a3], aa_H g) rfl r
      obtain ⟨_, n16, v1, h1, -, ln16, rc, r⟩ := rn_call (m2 := 66) (as := [.int a3]) (rest := []) rfl rfl r
      obtain ⟨rfl, rfl⟩ := dn_66 rc
      have r : rn_s _ 95 (26, [some (.ref 1), some (.int a1), some (.int a2), some (.int a3), some (.int a4), some (.ref W6)], [.int (fn_66 a3)], aa_H g) v h := r
      refine rn_if (iw_s v h) rfl decide_eq_true_iff.symm r (fun c18 l19n l19 r => ?_) (fun c18 l19n l19 r => ?_)
      · obtain ⟨n20, ln20, r⟩ := rn_steps 0 (40, [some (.ref 1), some (.int a1), some (.int a2), some (.int a3), some (.int a4), some (.ref W6)], [.int (-1)], aa_H g) rfl r
        exact rn_ire rfl r
      · obtain ⟨n21, ln21, r⟩ := rn_steps 2 (33, [some (.ref 1), some (.int a1), some (.int a2), some (.int a3), some (.int a4), some (.ref W6)], [.int 3, .int 0, .int a4], aa_H g) rfl r
        obtain ⟨_, n22, v1, h1, -, ln22, rc, r⟩ := rn_call (m2 := 14) (as := [.int a4, .int 0, .int 3]) (rest := []) rfl rfl r
        obtain ⟨rfl, rfl⟩ := dn_14 rc
        have r : rn_s _ 95 (36, [some (.ref 1), some (.int a1), some (.int a2), some (.int a3), some (.int a4), some (.ref W6)], [.int (fn_14 a4 0 3)], aa_H g) v h := r
        refine rn_if (iw_s v h) rfl decide_eq_true_iff.symm r (fun c24 l25n l25 r => ?_) (fun c24 l25n l25 r => ?_)
        · obtain ⟨n26, ln26, r⟩ := rn_steps 0 (43, [some (.ref 1), some (.int a1), some (.int a2), some (.int a3), some (.int a4), some (.ref W6)], [.int a4], aa_H g) rfl r
          refine rn_if (iw_s v h) rfl decide_eq_true_iff.symm r (fun c27 l28n l28 r => ?_) (fun c27 l28n l28 r => ?_)
          · obtain ⟨n29, ln29, r⟩ := rn_steps 1 (51, [some (.ref 1), some (.int a1), some (.int a2), some (.int a3), some (.int a4), some (.ref W6)], [.int 3, .int a4], aa_H g) rfl r
            refine rn_ic (iw_s v h) rfl decide_eq_true_iff.symm r (fun c30 l31n l31 r => ?_) (fun c30 l31n l31 r => ?_)
            · obtain ⟨n32, ln32, r⟩ := rn_steps 4 (76, [some (.ref 1), some (.int a1), some (.int a2), some (.int a3), some (.int a4), some (.ref W6)], [.int 0, .int a2, .ref W6, .ref 461], aa_H g) rfl r
              obtain ⟨_, n33, v1, h1, -, ln33, rc, r⟩ := rn_call (m2 := 78) (as := [.ref 461, .ref W6, .int a2, .int 0]) (rest := []) rfl rfl r
              obtain ⟨rfl, rfl⟩ := dn_78 sp_c461 (rn_o1 hw7) rc
              have r : rn_s _ 95 (79, [some (.ref 1), some (.int a1), some (.int a2), some (.int a3), some (.int a4), some (.ref W6)], [], aa_H (fn_78 g 461 (some W6) a2 0)) v h := r
              exact dn_95_79 (some (.int a1)) (some (.ref W6)) rn_ji rn_jr r
            · obtain ⟨n35, ln35, r⟩ := rn_steps 1 (57, [some (.ref 1), some (.int a1), some (.int a2), some (.int a3), some (.int a4), some (.ref W6)], [.int 43200, .int a3], aa_H g) rfl r
              refine rn_ic (iw_s v h) rfl decide_eq_true_iff.symm r (fun c36 l37n l37 r => ?_) (fun c36 l37n l37 r => ?_)
              · obtain ⟨n38, ln38, r⟩ := rn_steps 2 (67, [some (.ref 1), some (.int a1), some (.int a2), some (.int a3), some (.int a4), some (.ref W6)], [.int (a2 - 1)], aa_H g) rfl r
                exact rn_ire rfl r
              · obtain ⟨n39, ln39, r⟩ := rn_steps 1 (67, [some (.ref 1), some (.int a1), some (.int a2), some (.int a3), some (.int a4), some (.ref W6)], [.int a2], aa_H g) rfl r
                exact rn_ire rfl r
          · obtain ⟨n40, ln40, r⟩ := rn_steps 0 (47, [some (.ref 1), some (.int a1), some (.int a2), some (.int a3), some (.int a4), some (.ref W6)], [.int a2], aa_H g) rfl r
            exact rn_ire rfl r
        · obtain ⟨n41, ln41, r⟩ := rn_steps 0 (40, [some (.ref 1), some (.int a1), some (.int a2), some (.int a3), some (.int a4), some (.ref W6)], [.int (-1)], aa_H g) rfl r
          exact rn_ire rfl r
-- 96: UnequalHours middle
noncomputable def fn_96_55 (g : aa_G) (b3 : Int32) (b4 : Int32) : Int32 × aa_G := if (g 461 0) ≠ 0 then if b4 ≠ 0 then if b3 ≠ 0 then (((g 461 3) + ((g 461 4) / 2)) - 86400, g) else (((g 461 3) + ((g 461 4) / 2)) - 43200, g) else ((g 461 3) + ((g 461 4) / 2), g) else (-1000000, g)
theorem dn_96_55 {v : Option Value} {h : zz_H} {n : Nat} {g : aa_G} {b3 : Int32} {b4 : Int32}  (x1 x2 x5 x6 : Option Value) (jx1 : rn_jk x1) (jx2 : rn_jk x2) (jx5 : rn_jk x5) (jx6 : rn_jk x6) (r : rn_s n 96 (55, [some (.ref 1), x1, x2, some (.int b3), some (.int b4), x5, x6], [], aa_H g) v h) : iw_s v h (fn_96_55 g b3 b4) := by
  unfold fn_96_55
  obtain ⟨n30, ln30, r⟩ := rn_steps 2 (62, [some (.ref 1), x1, x2, some (.int b3), some (.int b4), x5, x6], [.int (g 461 0)], aa_H g) rfl r
  refine rn_if (iw_s v h) rfl decide_eq_true_iff.symm r (fun c31 l32n l32 r => ?_) (fun c31 l32n l32 r => ?_)
  · obtain ⟨n33, ln33, r⟩ := rn_steps 8 (85, [some (.ref 1), x1, x2, some (.int b3), some (.int b4), x5, x6], [.int ((g 461 3) + ((g 461 4) / 2))], aa_H g) rfl r
    obtain ⟨n34, ln34, r⟩ := rn_isx (i := 6) rfl rfl jx5 rfl ⟨Nat.le_of_ble_eq_true rfl, Nat.le_of_ble_eq_true rfl⟩ r
    have r : rn_s _ 96 (87, [some (.ref 1), x1, x2, some (.int b3), some (.int b4), x5, some (.int ((g 461 3) + ((g 461 4) / 2)))], [], aa_H g) v h := r
    obtain ⟨n35, ln35, r⟩ := rn_steps 0 (89, [some (.ref 1), x1, x2, some (.int b3), some (.int b4), x5, some (.int ((g 461 3) + ((g 461 4) / 2)))], [.int b4], aa_H g) rfl r
    refine rn_if (iw_s v h) rfl decide_eq_true_iff.symm r (fun c36 l37n l37 r => ?_) (fun c36 l37n l37 r => ?_)
    · obtain ⟨n38, ln38, r⟩ := rn_steps 1 (98, [some (.ref 1), x1, x2, some (.int b3), some (.int b4), x5, some (.int ((g 461 3) + ((g 461 4) / 2)))], [.int b3, .int ((g 461 3) + ((g 461 4) / 2))], aa_H g) rfl r
      refine rn_if (iw_s v h) rfl decide_eq_true_iff.symm r (fun c39 l40n l40 r => ?_) (fun c39 l40n l40 r => ?_)
      · obtain ⟨n41, ln41, r⟩ := rn_steps 1 (109, [some (.ref 1), x1, x2, some (.int b3), some (.int b4), x5, some (.int ((g 461 3) + ((g 461 4) / 2)))], [.int (((g 461 3) + ((g 461 4) / 2)) - 86400)], aa_H g) rfl r
        exact rn_ire rfl r
      · obtain ⟨n42, ln42, r⟩ := rn_steps 2 (109, [some (.ref 1), x1, x2, some (.int b3), some (.int b4), x5, some (.int ((g 461 3) + ((g 461 4) / 2)))], [.int (((g 461 3) + ((g 461 4) / 2)) - 43200)], aa_H g) rfl r
        exact rn_ire rfl r
    · obtain ⟨n43, ln43, r⟩ := rn_steps 0 (94, [some (.ref 1), x1, x2, some (.int b3), some (.int b4), x5, some (.int ((g 461 3) + ((g 461 4) / 2)))], [.int ((g 461 3) + ((g 461 4) / 2))], aa_H g) rfl r
      exact rn_ire rfl r
  · obtain ⟨n44, ln44, r⟩ := rn_steps 0 (67, [some (.ref 1), x1, x2, some (.int b3), some (.int b4), x5, x6], [.int (-1000000)], aa_H g) rfl r
    exact rn_ire rfl r
noncomputable def fn_96 (g : aa_G) (a1 : Int32) (a2 : Int32) (a3 : Int32) (a4 : Int32) : Int32 × aa_G := (match fn_31 g a1 with | none => ((-1000000, g)) | some W6 => (if (fn_77 a2) = 0 then (-1000000, g) else if (fn_14 a3 0 1) = 0 then (-1000000, g) else if (fn_14 a4 0 1) ≠ 0 then fn_96_55 (fn_78 g 461 (some W6) a2 a3) a3 a4 else (-1000000, g)))
theorem dn_96 {v : Option Value} {h : zz_H} {n : Nat} {g : aa_G} {a1 : Int32} {a2 : Int32} {a3 : Int32} {a4 : Int32}  (r : rn_s n 96 (0, zz_in [.ref 1, .int a1, .int a2, .int a3, .int a4] (zz_nl 96), [], aa_H g) v h) : iw_s v h (fn_96 g a1 a2 a3 a4) := by
  have r : rn_s n 96 (0, [some (.ref 1), some (.int a1), some (.int a2), some (.int a3), some (.int a4), none, none], [], aa_H g) v h := r
  unfold fn_96
  obtain ⟨n1, ln1, r⟩ := rn_steps 2 (5, [some (.ref 1), some (.int a1), some (.int a2), some (.int a3), some (.int a4), none, none], [.int a1, .ref 2], aa_H g) rfl r
  obtain ⟨_, n2, v1, h1, -, ln2, rc, r⟩ := rn_call (m2 := 31) (as := [.ref 2, .int a1]) (rest := []) rfl rfl r
  obtain ⟨rfl, rfl, ho4⟩ := dn_31 rc
  have r : rn_s _ 96 (8, [some (.ref 1), some (.int a1), some (.int a2), some (.int a3), some (.int a4), none, none], [zz_val (fn_31 g a1)], aa_H g) v h := r
  cases e5 : fn_31 g a1 with
  | none =>
    rw [e5] at r
    have r : rn_s _ 96 (8, [some (.ref 1), some (.int a1), some (.int a2), some (.int a3), some (.int a4), none, none], [.null], aa_H g) v h := r
    dsimp only
    obtain ⟨n8, ln8, r⟩ := rn_steps 3 (43, [some (.ref 1), some (.int a1), some (.int a2), some (.int a3), some (.int a4), some (.null), none], [.int (-1000000)], aa_H g) rfl r
    exact rn_ire rfl r
  | some W6 =>
    rw [e5] at r
    have hw7 : ct_tw W6 := ho4 _ e5
    have r : rn_s _ 96 (8, [some (.ref 1), some (.int a1), some (.int a2), some (.int a3), some (.int a4), none, none], [.ref W6], aa_H g) v h := r
    dsimp only
    obtain ⟨n9, ln9, r⟩ := rn_steps 3 (16, [some (.ref 1), some (.int a1), some (.int a2), some (.int a3), some (.int a4), some (.ref W6), none], [.int a2], aa_H g) rfl r
    obtain ⟨_, n10, v1, h1, -, ln10, rc, r⟩ := rn_call (m2 := 77) (as := [.int a2]) (rest := []) rfl rfl r
    obtain ⟨rfl, rfl⟩ := dn_77 rc
    have r : rn_s _ 96 (19, [some (.ref 1), some (.int a1), some (.int a2), some (.int a3), some (.int a4), some (.ref W6), none], [.int (fn_77 a2)], aa_H g) v h := r
    refine rn_if (iw_s v h) rfl decide_eq_true_iff.symm r (fun c12 l13n l13 r => ?_) (fun c12 l13n l13 r => ?_)
    · obtain ⟨n14, ln14, r⟩ := rn_steps 0 (43, [some (.ref 1), some (.int a1), some (.int a2), some (.int a3), some (.int a4), some (.ref W6), none], [.int (-1000000)], aa_H g) rfl r
      exact rn_ire rfl r
    · obtain ⟨n15, ln15, r⟩ := rn_steps 2 (25, [some (.ref 1), some (.int a1), some (.int a2), some (.int a3), some (.int a4), some (.ref W6), none], [.int 1, .int 0, .int a3], aa_H g) rfl r
      obtain ⟨_, n16, v1, h1, -, ln16, rc, r⟩ := rn_call (m2 := 14) (as := [.int a3, .int 0, .int 1]) (rest := []) rfl rfl r
      obtain ⟨rfl, rfl⟩ := dn_14 rc
      have r : rn_s _ 96 (28, [some (.ref 1), some (.int a1), some (.int a2), some (.int a3), some (.int a4), some (.ref W6), none], [.int (fn_14 a3 0 1)], aa_H g) v h := r
      refine rn_if (iw_s v h) rfl decide_eq_true_iff.symm r (fun c18 l19n l19 r => ?_) (fun c18 l19n l19 r => ?_)
      · obtain ⟨n20, ln20, r⟩ := rn_steps 0 (43, [some (.ref 1), some (.int a1), some (.int a2), some (.int a3), some (.int a4), some (.ref W6), none], [.int (-1000000)], aa_H g) rfl r
        exact rn_ire rfl r
      · obtain ⟨n21, ln21, r⟩ := rn_steps 2 (35, [some (.ref 1), some (.int a1), some (.int a2), some (.int a3), some (.int a4), some (.ref W6), none], [.int 1, .int 0, .int a4], aa_H g) rfl r
        obtain ⟨_, n22, v1, h1, -, ln22, rc, r⟩ := rn_call (m2 := 14) (as := [.int a4, .int 0, .int 1]) (rest := []) rfl rfl r
        obtain ⟨rfl, rfl⟩ := dn_14 rc
        have r : rn_s _ 96 (38, [some (.ref 1), some (.int a1), some (.int a2), some (.int a3), some (.int a4), some (.ref W6), none], [.int (fn_14 a4 0 1)], aa_H g) v h := r
        refine rn_if (iw_s v h) rfl decide_eq_true_iff.symm r (fun c24 l25n l25 r => ?_) (fun c24 l25n l25 r => ?_)
        · obtain ⟨n26, ln26, r⟩ := rn_steps 4 (52, [some (.ref 1), some (.int a1), some (.int a2), some (.int a3), some (.int a4), some (.ref W6), none], [.int a3, .int a2, .ref W6, .ref 461], aa_H g) rfl r
          obtain ⟨_, n27, v1, h1, -, ln27, rc, r⟩ := rn_call (m2 := 78) (as := [.ref 461, .ref W6, .int a2, .int a3]) (rest := []) rfl rfl r
          obtain ⟨rfl, rfl⟩ := dn_78 sp_c461 (rn_o1 hw7) rc
          have r : rn_s _ 96 (55, [some (.ref 1), some (.int a1), some (.int a2), some (.int a3), some (.int a4), some (.ref W6), none], [], aa_H (fn_78 g 461 (some W6) a2 a3)) v h := r
          exact dn_96_55 (some (.int a1)) (some (.int a2)) (some (.ref W6)) none rn_ji rn_ji rn_jr rn_jn r
        · obtain ⟨n29, ln29, r⟩ := rn_steps 0 (43, [some (.ref 1), some (.int a1), some (.int a2), some (.int a3), some (.int a4), some (.ref W6), none], [.int (-1000000)], aa_H g) rfl r
          exact rn_ire rfl r
-- 97: UnequalHours apart
noncomputable def fn_97_20 (g : aa_G) (b6 : Int32) (s0 : Int32) : Int32 × aa_G := if b6 < 0 then (-1000000, g) else if 0 ≤ s0 then (s0 - b6, g) else (-1000000, g)
theorem dn_97_20 {v : Option Value} {h : zz_H} {n : Nat} {g : aa_G} {b6 : Int32} {s0 : Int32}  (x0 x1 x2 x3 x4 x5 x7 : Option Value) (jx0 : rn_jk x0) (jx1 : rn_jk x1) (jx2 : rn_jk x2) (jx3 : rn_jk x3) (jx4 : rn_jk x4) (jx5 : rn_jk x5) (jx7 : rn_jk x7) (r : rn_s n 97 (20, [x0, x1, x2, x3, x4, x5, some (.int b6), x7], [.int s0], aa_H g) v h) : iw_s v h (fn_97_20 g b6 s0) := by
  unfold fn_97_20
  obtain ⟨n7, ln7, r⟩ := rn_steps 1 (24, [x0, x1, x2, x3, x4, x5, some (.int b6), some (.int s0)], [.int b6], aa_H g) rfl r
  refine rn_if (iw_s v h) rfl decide_eq_true_iff.symm r (fun c8 l9n l9 r => ?_) (fun c8 l9n l9 r => ?_)
  · obtain ⟨n10, ln10, r⟩ := rn_steps 1 (42, [x0, x1, x2, x3, x4, x5, some (.int b6), some (.int s0)], [.int (-1000000)], aa_H g) rfl r
    exact rn_ire rfl r
  · obtain ⟨n11, ln11, r⟩ := rn_steps 0 (29, [x0, x1, x2, x3, x4, x5, some (.int b6), some (.int s0)], [.int s0], aa_H g) rfl r
    refine rn_if (iw_s v h) rfl decide_eq_true_iff.symm r (fun c12 l13n l13 r => ?_) (fun c12 l13n l13 r => ?_)
    · obtain ⟨n14, ln14, r⟩ := rn_steps 2 (42, [x0, x1, x2, x3, x4, x5, some (.int b6), some (.int s0)], [.int (s0 - b6)], aa_H g) rfl r
      exact rn_ire rfl r
    · obtain ⟨n15, ln15, r⟩ := rn_steps 1 (42, [x0, x1, x2, x3, x4, x5, some (.int b6), some (.int s0)], [.int (-1000000)], aa_H g) rfl r
      exact rn_ire rfl r
noncomputable def fn_97_9 (g : aa_G) (b1 : Int32) (b2 : Int32) (b3 : Int32) (b5 : Int32) (s0 : Int32) : Int32 × aa_G := fn_97_20 ((fn_90 g b1 b2 b3 b5).2) s0 ((fn_90 g b1 b2 b3 b5).1)
theorem dn_97_9 {v : Option Value} {h : zz_H} {n : Nat} {g : aa_G} {b1 : Int32} {b2 : Int32} {b3 : Int32} {b5 : Int32} {s0 : Int32}  (x4 x6 x7 : Option Value) (jx4 : rn_jk x4) (jx6 : rn_jk x6) (jx7 : rn_jk x7) (r : rn_s n 97 (9, [some (.ref 1), some (.int b1), some (.int b2), some (.int b3), x4, some (.int b5), x6, x7], [.int s0], aa_H g) v h) : iw_s v h (fn_97_9 g b1 b2 b3 b5 s0) := by
  unfold fn_97_9
  obtain ⟨n4, ln4, r⟩ := rn_steps 5 (17, [some (.ref 1), some (.int b1), some (.int b2), some (.int b3), x4, some (.int b5), some (.int s0), x7], [.int b5, .int b3, .int b2, .int b1, .ref 1], aa_H g) rfl r
  obtain ⟨_, n5, v1, h1, -, ln5, rc, r⟩ := rn_call (m2 := 90) (as := [.ref 1, .int b1, .int b2, .int b3, .int b5]) (rest := []) rfl rfl r
  obtain ⟨rfl, rfl⟩ := dn_90 rc
  have r : rn_s _ 97 (20, [some (.ref 1), some (.int b1), some (.int b2), some (.int b3), x4, some (.int b5), some (.int s0), x7], [.int ((fn_90 g b1 b2 b3 b5).1)], aa_H ((fn_90 g b1 b2 b3 b5).2)) v h := r
  exact dn_97_20 (some (.ref 1)) (some (.int b1)) (some (.int b2)) (some (.int b3)) x4 (some (.int b5)) x7 rn_jr rn_ji rn_ji rn_ji jx4 rn_ji jx7 r
noncomputable def fn_97 (g : aa_G) (a1 : Int32) (a2 : Int32) (a3 : Int32) (a4 : Int32) (a5 : Int32) : Int32 × aa_G := fn_97_9 ((fn_90 g a1 a2 a3 a4).2) a1 a2 a3 a5 ((fn_90 g a1 a2 a3 a4).1)
theorem dn_97 {v : Option Value} {h : zz_H} {n : Nat} {g : aa_G} {a1 : Int32} {a2 : Int32} {a3 : Int32} {a4 : Int32} {a5 : Int32}  (r : rn_s n 97 (0, zz_in [.ref 1, .int a1, .int a2, .int a3, .int a4, .int a5] (zz_nl 97), [], aa_H g) v h) : iw_s v h (fn_97 g a1 a2 a3 a4 a5) := by
  have r : rn_s n 97 (0, [some (.ref 1), some (.int a1), some (.int a2), some (.int a3), some (.int a4), some (.int a5), none, none], [], aa_H g) v h := r
  unfold fn_97
  obtain ⟨n1, ln1, r⟩ := rn_steps 4 (6, [some (.ref 1), some (.int a1), some (.int a2), some (.int a3), some (.int a4), some (.int a5), none, none], [.int a4, .int a3, .int a2, .int a1, .ref 1], aa_H g) rfl r
  obtain ⟨_, n2, v1, h1, -, ln2, rc, r⟩ := rn_call (m2 := 90) (as := [.ref 1, .int a1, .int a2, .int a3, .int a4]) (rest := []) rfl rfl r
  obtain ⟨rfl, rfl⟩ := dn_90 rc
  have r : rn_s _ 97 (9, [some (.ref 1), some (.int a1), some (.int a2), some (.int a3), some (.int a4), some (.int a5), none, none], [.int ((fn_90 g a1 a2 a3 a4).1)], aa_H ((fn_90 g a1 a2 a3 a4).2)) v h := r
  exact dn_97_9 (some (.int a4)) none none rn_ji rn_jn rn_jn r
end
