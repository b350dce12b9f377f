/-! FEED: its bytes, both sides -/
/-- four bytes come behind the tape -/
def fd_ap (f : Int32 → Int32 → Int32) (A k j : Nat) (g g' : aa_G) (c : Nat) (x : Int32) : Prop := g' k j = Int32.ofNat (c + 4) ∧ (∀ i, i < 4 → g' A (c + i) = f x (fd_sh i)) ∧ ∀ a b, ¬ (a = k ∧ b = j) → ¬ (a = A ∧ c ≤ b ∧ b < c + 4) → g' a b = g a b
def fd_st (f : Int32 → Int32 → Int32) (A k j : Nat) (g g' : aa_G) (c m : Nat) (as : Nat → Int32) : Prop := g' k j = Int32.ofNat (c + 4 * m) ∧ (∀ i, i < 4 * m → g' A (c + i) = f (as (i / 4)) (fd_sh (i % 4))) ∧ ∀ a b, ¬ (a = k ∧ b = j) → ¬ (a = A ∧ c ≤ b ∧ b < c + 4 * m) → g' a b = g a b
theorem fd_st.nil {f : Int32 → Int32 → Int32} {A k j : Nat} {g : aa_G} {c : Nat} {as : Nat → Int32} (h : g k j = Int32.ofNat c) : fd_st f A k j g g c 0 as := ⟨h, fun i hi => absurd hi (Nat.not_lt_zero i), fun _ _ _ _ => rfl⟩
theorem fd_st.tr {f : Int32 → Int32 → Int32} {A k j : Nat} {g g1 g2 : aa_G} {c m : Nat} {as : Nat → Int32} (hA : A ≠ k) (h : fd_st f A k j g g1 c m as) (h2 : fd_ap f A k j g1 g2 (c + 4 * m) (as m)) : fd_st f A k j g g2 c (m + 1) as := by
  refine ⟨?_, fun i hi => ?_, fun a b e1 e2 => (h2.2.2 a b e1 (by omega)).trans (h.2.2 a b e1 (by omega))⟩
  · rw [h2.1, show c + 4 * m + 4 = c + 4 * (m + 1) by omega]
  · by_cases hl : i < 4 * m
    · rw [h2.2.2 A (c + i) (fun e => hA e.1) (by omega)]
      exact h.2.1 i hl
    · have k1 := h2.2.1 (i - 4 * m) (by omega)
      rw [show c + 4 * m + (i - 4 * m) = c + i by omega] at k1
      rw [k1, show i / 4 = m by omega, show i % 4 = i - 4 * m by omega]
def fd_args (a b c d e : Int32) : Nat → Int32
  | 0 => a
  | 1 => b
  | 2 => c
  | 3 => d
  | _ => e
theorem zz_fin.bas2 {X : zz_X} {m pc : Nat} {lv : zz_V} {h : zz_H} {φ : Option Value → zz_H → Prop} {i a : Int32} {k n : Nat} {r : List Value} {x y u w : Nat} {vv : Value} {sw : List (Int × Nat)} (hT : zz_T m pc = some (.bastore, (x, y, u, w), vv, sw)) (h1 : zz_arr h (k + 1) 1 = none) (ha : zz_arr h (k + 1) 2 = some n) (hb : zz_inb i n = true) (kk : zz_fin X m (pc + 1, lv, r, (h.1, (h.2.1, zz_w h.2.2 (k + 1) i.toNatClampNeg (vp_nar .byte a)))) φ) : zz_fin X m (pc, lv, .int a :: .int i :: .ref (k + 1) :: r, h) φ := by
  refine zz_fin.step1 hT ?_ kk
  show zz_bas pc lv (.int a :: .int i :: .ref (k + 1) :: r) h = _
  unfold zz_bas
  dsimp only
  rw [h1, ha]
  dsimp only
  rw [if_pos hb]
  rfl
theorem fd_appc {g : aa_G} {c : Nat} {x : Int32} (hc : c + 4 ≤ 500) (h0 : g 454 0 = Int32.ofNat c) : zz_fin none 12 (0, zz_in [.ref 454, .int x] (zz_nl 12), [], aa_H g) (fun v h => v = none ∧ ∃ g', h = aa_H g' ∧ fd_ap cf_byte 455 454 0 g g' c x) := by
  refine zz_fin.steps (n := 2) (s' := (3, [some (.ref 454), some (.int x), some (.int 24)], [], aa_H g)) rfl ?_
  refine zz_fin.steps (n := 1) (s' := (4, [some (.ref 454), some (.int x), some (.int 24)], [.int 24], aa_H g)) rfl ?_
  refine zz_fin.if rfl (fun cz => absurd cz (by decide)) (fun cz => ?_)
  refine zz_fin.steps (n := 3) (s' := (14, [some (.ref 454), some (.int x), some (.int 24)], [.int 500, .int (g 454 0)], aa_H g)) rfl ?_
  rw [h0]
  refine zz_fin.ic rfl (fun cz => ?_) (fun cz => ?_)
  · have cz : (500 : Int32).toInt ≤ (Int32.ofNat (c)).toInt := aa_le32.mp (of_decide_eq_true cz)
    rw [zz_ofN (by omega), show (500 : Int32).toInt = 500 from rfl] at cz
    omega
  · skip
    refine zz_fin.steps (n := 9) (s' := (32, [some (.ref 454), some (.int x), some (.int 24)], [.int (((x.toUInt32 >>> ((24 : Int32).toUInt32 &&& Int32.toUInt32 31)).toInt32) &&& 255), .int (g 454 0), .ref 455], aa_H g)) rfl ?_
    rw [h0]
    refine zz_fin.ias (n := 500) rfl rfl (zz_inbN (by omega) (by omega)) ?_
    rw [zz_toN (by omega)]
    refine zz_fin.steps (n := 0) (s' := (33, [some (.ref 454), some (.int x), some (.int 24)], [], aa_H (zz_w g 455 (c) (cf_byte x 24)))) rfl ?_
    have k0 : (zz_w g 455 (c) (cf_byte x 24)) 454 0 = Int32.ofNat (c) := (aa_w_ne _ _ (by omega)).trans h0
    refine zz_fin.steps (n := 5) (s' := (40, [some (.ref 454), some (.int x), some (.int 24)], [.int (((zz_w g 455 (c) (cf_byte x 24)) 454 0) + 1), .ref 454], aa_H (zz_w g 455 (c) (cf_byte x 24)))) rfl ?_
    rw [k0, aa_succ]
    refine zz_fin.steps (n := 1) (s' := (43, [some (.ref 454), some (.int x), some (.int 24)], [], aa_H (zz_w (zz_w g 455 (c) (cf_byte x 24)) 454 0 (Int32.ofNat (c + 1))))) rfl ?_
    have h1 : (zz_w (zz_w g 455 (c) (cf_byte x 24)) 454 0 (Int32.ofNat (c + 1))) 454 0 = Int32.ofNat (c + 1) := aa_w_at _ _ _ _
    refine zz_fin.steps (n := 2) (s' := (3, [some (.ref 454), some (.int x), some (.int (24 + (-8)))], [], aa_H (zz_w (zz_w g 455 (c) (cf_byte x 24)) 454 0 (Int32.ofNat (c + 1))))) rfl ?_
    refine zz_fin.steps (n := 0) (s' := (3, [some (.ref 454), some (.int x), some (.int 16)], [], aa_H (zz_w (zz_w g 455 (c) (cf_byte x 24)) 454 0 (Int32.ofNat (c + 1))))) rfl ?_
    refine zz_fin.steps (n := 1) (s' := (4, [some (.ref 454), some (.int x), some (.int 16)], [.int 16], aa_H (zz_w (zz_w g 455 (c) (cf_byte x 24)) 454 0 (Int32.ofNat (c + 1))))) rfl ?_
    refine zz_fin.if rfl (fun cz => absurd cz (by decide)) (fun cz => ?_)
    refine zz_fin.steps (n := 3) (s' := (14, [some (.ref 454), some (.int x), some (.int 16)], [.int 500, .int ((zz_w (zz_w g 455 (c) (cf_byte x 24)) 454 0 (Int32.ofNat (c + 1))) 454 0)], aa_H (zz_w (zz_w g 455 (c) (cf_byte x 24)) 454 0 (Int32.ofNat (c + 1))))) rfl ?_
    rw [h1]
    refine zz_fin.ic rfl (fun cz => ?_) (fun cz => ?_)
    · have cz : (500 : Int32).toInt ≤ (Int32.ofNat (c + 1)).toInt := aa_le32.mp (of_decide_eq_true cz)
      rw [zz_ofN (by omega), show (500 : Int32).toInt = 500 from rfl] at cz
      omega
    · skip
      refine zz_fin.steps (n := 9) (s' := (32, [some (.ref 454), some (.int x), some (.int 16)], [.int (((x.toUInt32 >>> ((16 : Int32).toUInt32 &&& Int32.toUInt32 31)).toInt32) &&& 255), .int ((zz_w (zz_w g 455 (c) (cf_byte x 24)) 454 0 (Int32.ofNat (c + 1))) 454 0), .ref 455], aa_H (zz_w (zz_w g 455 (c) (cf_byte x 24)) 454 0 (Int32.ofNat (c + 1))))) rfl ?_
      rw [h1]
      refine zz_fin.ias (n := 500) rfl rfl (zz_inbN (by omega) (by omega)) ?_
      rw [zz_toN (by omega)]
      refine zz_fin.steps (n := 0) (s' := (33, [some (.ref 454), some (.int x), some (.int 16)], [], aa_H (zz_w (zz_w (zz_w g 455 (c) (cf_byte x 24)) 454 0 (Int32.ofNat (c + 1))) 455 (c + 1) (cf_byte x 16)))) rfl ?_
      have k1 : (zz_w (zz_w (zz_w g 455 (c) (cf_byte x 24)) 454 0 (Int32.ofNat (c + 1))) 455 (c + 1) (cf_byte x 16)) 454 0 = Int32.ofNat (c + 1) := (aa_w_ne _ _ (by omega)).trans h1
      refine zz_fin.steps (n := 5) (s' := (40, [some (.ref 454), some (.int x), some (.int 16)], [.int (((zz_w (zz_w (zz_w g 455 (c) (cf_byte x 24)) 454 0 (Int32.ofNat (c + 1))) 455 (c + 1) (cf_byte x 16)) 454 0) + 1), .ref 454], aa_H (zz_w (zz_w (zz_w g 455 (c) (cf_byte x 24)) 454 0 (Int32.ofNat (c + 1))) 455 (c + 1) (cf_byte x 16)))) rfl ?_
      rw [k1, aa_succ]
      refine zz_fin.steps (n := 1) (s' := (43, [some (.ref 454), some (.int x), some (.int 16)], [], aa_H (zz_w (zz_w (zz_w (zz_w g 455 (c) (cf_byte x 24)) 454 0 (Int32.ofNat (c + 1))) 455 (c + 1) (cf_byte x 16)) 454 0 (Int32.ofNat (c + 1 + 1))))) rfl ?_
      have h2 : (zz_w (zz_w (zz_w (zz_w g 455 (c) (cf_byte x 24)) 454 0 (Int32.ofNat (c + 1))) 455 (c + 1) (cf_byte x 16)) 454 0 (Int32.ofNat (c + 1 + 1))) 454 0 = Int32.ofNat (c + 2) := aa_w_at _ _ _ _
      refine zz_fin.steps (n := 2) (s' := (3, [some (.ref 454), some (.int x), some (.int (16 + (-8)))], [], aa_H (zz_w (zz_w (zz_w (zz_w g 455 (c) (cf_byte x 24)) 454 0 (Int32.ofNat (c + 1))) 455 (c + 1) (cf_byte x 16)) 454 0 (Int32.ofNat (c + 1 + 1))))) rfl ?_
      refine zz_fin.steps (n := 0) (s' := (3, [some (.ref 454), some (.int x), some (.int 8)], [], aa_H (zz_w (zz_w (zz_w (zz_w g 455 (c) (cf_byte x 24)) 454 0 (Int32.ofNat (c + 1))) 455 (c + 1) (cf_byte x 16)) 454 0 (Int32.ofNat (c + 1 + 1))))) rfl ?_
      refine zz_fin.steps (n := 1) (s' := (4, [some (.ref 454), some (.int x), some (.int 8)], [.int 8], aa_H (zz_w (zz_w (zz_w (zz_w g 455 (c) (cf_byte x 24)) 454 0 (Int32.ofNat (c + 1))) 455 (c + 1) (cf_byte x 16)) 454 0 (Int32.ofNat (c + 1 + 1))))) rfl ?_
      refine zz_fin.if rfl (fun cz => absurd cz (by decide)) (fun cz => ?_)
      refine zz_fin.steps (n := 3) (s' := (14, [some (.ref 454), some (.int x), some (.int 8)], [.int 500, .int ((zz_w (zz_w (zz_w (zz_w g 455 (c) (cf_byte x 24)) 454 0 (Int32.ofNat (c + 1))) 455 (c + 1) (cf_byte x 16)) 454 0 (Int32.ofNat (c + 1 + 1))) 454 0)], aa_H (zz_w (zz_w (zz_w (zz_w g 455 (c) (cf_byte x 24)) 454 0 (Int32.ofNat (c + 1))) 455 (c + 1) (cf_byte x 16)) 454 0 (Int32.ofNat (c + 1 + 1))))) rfl ?_
      rw [h2]
      refine zz_fin.ic rfl (fun cz => ?_) (fun cz => ?_)
      · have cz : (500 : Int32).toInt ≤ (Int32.ofNat (c + 2)).toInt := aa_le32.mp (of_decide_eq_true cz)
        rw [zz_ofN (by omega), show (500 : Int32).toInt = 500 from rfl] at cz
        omega
      · skip
        refine zz_fin.steps (n := 9) (s' := (32, [some (.ref 454), some (.int x), some (.int 8)], [.int (((x.toUInt32 >>> ((8 : Int32).toUInt32 &&& Int32.toUInt32 31)).toInt32) &&& 255), .int ((zz_w (zz_w (zz_w (zz_w g 455 (c) (cf_byte x 24)) 454 0 (Int32.ofNat (c + 1))) 455 (c + 1) (cf_byte x 16)) 454 0 (Int32.ofNat (c + 1 + 1))) 454 0), .ref 455], aa_H (zz_w (zz_w (zz_w (zz_w g 455 (c) (cf_byte x 24)) 454 0 (Int32.ofNat (c + 1))) 455 (c + 1) (cf_byte x 16)) 454 0 (Int32.ofNat (c + 1 + 1))))) rfl ?_
        rw [h2]
        refine zz_fin.ias (n := 500) rfl rfl (zz_inbN (by omega) (by omega)) ?_
        rw [zz_toN (by omega)]
        refine zz_fin.steps (n := 0) (s' := (33, [some (.ref 454), some (.int x), some (.int 8)], [], aa_H (zz_w (zz_w (zz_w (zz_w (zz_w g 455 (c) (cf_byte x 24)) 454 0 (Int32.ofNat (c + 1))) 455 (c + 1) (cf_byte x 16)) 454 0 (Int32.ofNat (c + 1 + 1))) 455 (c + 2) (cf_byte x 8)))) rfl ?_
        have k2 : (zz_w (zz_w (zz_w (zz_w (zz_w g 455 (c) (cf_byte x 24)) 454 0 (Int32.ofNat (c + 1))) 455 (c + 1) (cf_byte x 16)) 454 0 (Int32.ofNat (c + 1 + 1))) 455 (c + 2) (cf_byte x 8)) 454 0 = Int32.ofNat (c + 2) := (aa_w_ne _ _ (by omega)).trans h2
        refine zz_fin.steps (n := 5) (s' := (40, [some (.ref 454), some (.int x), some (.int 8)], [.int (((zz_w (zz_w (zz_w (zz_w (zz_w g 455 (c) (cf_byte x 24)) 454 0 (Int32.ofNat (c + 1))) 455 (c + 1) (cf_byte x 16)) 454 0 (Int32.ofNat (c + 1 + 1))) 455 (c + 2) (cf_byte x 8)) 454 0) + 1), .ref 454], aa_H (zz_w (zz_w (zz_w (zz_w (zz_w g 455 (c) (cf_byte x 24)) 454 0 (Int32.ofNat (c + 1))) 455 (c + 1) (cf_byte x 16)) 454 0 (Int32.ofNat (c + 1 + 1))) 455 (c + 2) (cf_byte x 8)))) rfl ?_
        rw [k2, aa_succ]
        refine zz_fin.steps (n := 1) (s' := (43, [some (.ref 454), some (.int x), some (.int 8)], [], aa_H (zz_w (zz_w (zz_w (zz_w (zz_w (zz_w g 455 (c) (cf_byte x 24)) 454 0 (Int32.ofNat (c + 1))) 455 (c + 1) (cf_byte x 16)) 454 0 (Int32.ofNat (c + 1 + 1))) 455 (c + 2) (cf_byte x 8)) 454 0 (Int32.ofNat (c + 2 + 1))))) rfl ?_
        have h3 : (zz_w (zz_w (zz_w (zz_w (zz_w (zz_w g 455 (c) (cf_byte x 24)) 454 0 (Int32.ofNat (c + 1))) 455 (c + 1) (cf_byte x 16)) 454 0 (Int32.ofNat (c + 1 + 1))) 455 (c + 2) (cf_byte x 8)) 454 0 (Int32.ofNat (c + 2 + 1))) 454 0 = Int32.ofNat (c + 3) := aa_w_at _ _ _ _
        refine zz_fin.steps (n := 2) (s' := (3, [some (.ref 454), some (.int x), some (.int (8 + (-8)))], [], aa_H (zz_w (zz_w (zz_w (zz_w (zz_w (zz_w g 455 (c) (cf_byte x 24)) 454 0 (Int32.ofNat (c + 1))) 455 (c + 1) (cf_byte x 16)) 454 0 (Int32.ofNat (c + 1 + 1))) 455 (c + 2) (cf_byte x 8)) 454 0 (Int32.ofNat (c + 2 + 1))))) rfl ?_
        refine zz_fin.steps (n := 0) (s' := (3, [some (.ref 454), some (.int x), some (.int 0)], [], aa_H (zz_w (zz_w (zz_w (zz_w (zz_w (zz_w g 455 (c) (cf_byte x 24)) 454 0 (Int32.ofNat (c + 1))) 455 (c + 1) (cf_byte x 16)) 454 0 (Int32.ofNat (c + 1 + 1))) 455 (c + 2) (cf_byte x 8)) 454 0 (Int32.ofNat (c + 2 + 1))))) rfl ?_
        refine zz_fin.steps (n := 1) (s' := (4, [some (.ref 454), some (.int x), some (.int 0)], [.int 0], aa_H (zz_w (zz_w (zz_w (zz_w (zz_w (zz_w g 455 (c) (cf_byte x 24)) 454 0 (Int32.ofNat (c + 1))) 455 (c + 1) (cf_byte x 16)) 454 0 (Int32.ofNat (c + 1 + 1))) 455 (c + 2) (cf_byte x 8)) 454 0 (Int32.ofNat (c + 2 + 1))))) rfl ?_
        refine zz_fin.if rfl (fun cz => absurd cz (by decide)) (fun cz => ?_)
        refine zz_fin.steps (n := 3) (s' := (14, [some (.ref 454), some (.int x), some (.int 0)], [.int 500, .int ((zz_w (zz_w (zz_w (zz_w (zz_w (zz_w g 455 (c) (cf_byte x 24)) 454 0 (Int32.ofNat (c + 1))) 455 (c + 1) (cf_byte x 16)) 454 0 (Int32.ofNat (c + 1 + 1))) 455 (c + 2) (cf_byte x 8)) 454 0 (Int32.ofNat (c + 2 + 1))) 454 0)], aa_H (zz_w (zz_w (zz_w (zz_w (zz_w (zz_w g 455 (c) (cf_byte x 24)) 454 0 (Int32.ofNat (c + 1))) 455 (c + 1) (cf_byte x 16)) 454 0 (Int32.ofNat (c + 1 + 1))) 455 (c + 2) (cf_byte x 8)) 454 0 (Int32.ofNat (c + 2 + 1))))) rfl ?_
        rw [h3]
        refine zz_fin.ic rfl (fun cz => ?_) (fun cz => ?_)
        · have cz : (500 : Int32).toInt ≤ (Int32.ofNat (c + 3)).toInt := aa_le32.mp (of_decide_eq_true cz)
          rw [zz_ofN (by omega), show (500 : Int32).toInt = 500 from rfl] at cz
          omega
        · skip
          refine zz_fin.steps (n := 9) (s' := (32, [some (.ref 454), some (.int x), some (.int 0)], [.int (((x.toUInt32 >>> ((0 : Int32).toUInt32 &&& Int32.toUInt32 31)).toInt32) &&& 255), .int ((zz_w (zz_w (zz_w (zz_w (zz_w (zz_w g 455 (c) (cf_byte x 24)) 454 0 (Int32.ofNat (c + 1))) 455 (c + 1) (cf_byte x 16)) 454 0 (Int32.ofNat (c + 1 + 1))) 455 (c + 2) (cf_byte x 8)) 454 0 (Int32.ofNat (c + 2 + 1))) 454 0), .ref 455], aa_H (zz_w (zz_w (zz_w (zz_w (zz_w (zz_w g 455 (c) (cf_byte x 24)) 454 0 (Int32.ofNat (c + 1))) 455 (c + 1) (cf_byte x 16)) 454 0 (Int32.ofNat (c + 1 + 1))) 455 (c + 2) (cf_byte x 8)) 454 0 (Int32.ofNat (c + 2 + 1))))) rfl ?_
          rw [h3]
          refine zz_fin.ias (n := 500) rfl rfl (zz_inbN (by omega) (by omega)) ?_
          rw [zz_toN (by omega)]
          refine zz_fin.steps (n := 0) (s' := (33, [some (.ref 454), some (.int x), some (.int 0)], [], aa_H (zz_w (zz_w (zz_w (zz_w (zz_w (zz_w (zz_w g 455 (c) (cf_byte x 24)) 454 0 (Int32.ofNat (c + 1))) 455 (c + 1) (cf_byte x 16)) 454 0 (Int32.ofNat (c + 1 + 1))) 455 (c + 2) (cf_byte x 8)) 454 0 (Int32.ofNat (c + 2 + 1))) 455 (c + 3) (cf_byte x 0)))) rfl ?_
          have k3 : (zz_w (zz_w (zz_w (zz_w (zz_w (zz_w (zz_w g 455 (c) (cf_byte x 24)) 454 0 (Int32.ofNat (c + 1))) 455 (c + 1) (cf_byte x 16)) 454 0 (Int32.ofNat (c + 1 + 1))) 455 (c + 2) (cf_byte x 8)) 454 0 (Int32.ofNat (c + 2 + 1))) 455 (c + 3) (cf_byte x 0)) 454 0 = Int32.ofNat (c + 3) := (aa_w_ne _ _ (by omega)).trans h3
          refine zz_fin.steps (n := 5) (s' := (40, [some (.ref 454), some (.int x), some (.int 0)], [.int (((zz_w (zz_w (zz_w (zz_w (zz_w (zz_w (zz_w g 455 (c) (cf_byte x 24)) 454 0 (Int32.ofNat (c + 1))) 455 (c + 1) (cf_byte x 16)) 454 0 (Int32.ofNat (c + 1 + 1))) 455 (c + 2) (cf_byte x 8)) 454 0 (Int32.ofNat (c + 2 + 1))) 455 (c + 3) (cf_byte x 0)) 454 0) + 1), .ref 454], aa_H (zz_w (zz_w (zz_w (zz_w (zz_w (zz_w (zz_w g 455 (c) (cf_byte x 24)) 454 0 (Int32.ofNat (c + 1))) 455 (c + 1) (cf_byte x 16)) 454 0 (Int32.ofNat (c + 1 + 1))) 455 (c + 2) (cf_byte x 8)) 454 0 (Int32.ofNat (c + 2 + 1))) 455 (c + 3) (cf_byte x 0)))) rfl ?_
          rw [k3, aa_succ]
          refine zz_fin.steps (n := 1) (s' := (43, [some (.ref 454), some (.int x), some (.int 0)], [], aa_H (zz_w (zz_w (zz_w (zz_w (zz_w (zz_w (zz_w (zz_w g 455 (c) (cf_byte x 24)) 454 0 (Int32.ofNat (c + 1))) 455 (c + 1) (cf_byte x 16)) 454 0 (Int32.ofNat (c + 1 + 1))) 455 (c + 2) (cf_byte x 8)) 454 0 (Int32.ofNat (c + 2 + 1))) 455 (c + 3) (cf_byte x 0)) 454 0 (Int32.ofNat (c + 3 + 1))))) rfl ?_
          have h4 : (zz_w (zz_w (zz_w (zz_w (zz_w (zz_w (zz_w (zz_w g 455 (c) (cf_byte x 24)) 454 0 (Int32.ofNat (c + 1))) 455 (c + 1) (cf_byte x 16)) 454 0 (Int32.ofNat (c + 1 + 1))) 455 (c + 2) (cf_byte x 8)) 454 0 (Int32.ofNat (c + 2 + 1))) 455 (c + 3) (cf_byte x 0)) 454 0 (Int32.ofNat (c + 3 + 1))) 454 0 = Int32.ofNat (c + 4) := aa_w_at _ _ _ _
          refine zz_fin.steps (n := 2) (s' := (3, [some (.ref 454), some (.int x), some (.int (0 + (-8)))], [], aa_H (zz_w (zz_w (zz_w (zz_w (zz_w (zz_w (zz_w (zz_w g 455 (c) (cf_byte x 24)) 454 0 (Int32.ofNat (c + 1))) 455 (c + 1) (cf_byte x 16)) 454 0 (Int32.ofNat (c + 1 + 1))) 455 (c + 2) (cf_byte x 8)) 454 0 (Int32.ofNat (c + 2 + 1))) 455 (c + 3) (cf_byte x 0)) 454 0 (Int32.ofNat (c + 3 + 1))))) rfl ?_
          refine zz_fin.steps (n := 0) (s' := (3, [some (.ref 454), some (.int x), some (.int (-8))], [], aa_H (zz_w (zz_w (zz_w (zz_w (zz_w (zz_w (zz_w (zz_w g 455 (c) (cf_byte x 24)) 454 0 (Int32.ofNat (c + 1))) 455 (c + 1) (cf_byte x 16)) 454 0 (Int32.ofNat (c + 1 + 1))) 455 (c + 2) (cf_byte x 8)) 454 0 (Int32.ofNat (c + 2 + 1))) 455 (c + 3) (cf_byte x 0)) 454 0 (Int32.ofNat (c + 3 + 1))))) rfl ?_
          refine zz_fin.steps (n := 1) (s' := (4, [some (.ref 454), some (.int x), some (.int (-8))], [.int (-8)], aa_H (zz_w (zz_w (zz_w (zz_w (zz_w (zz_w (zz_w (zz_w g 455 (c) (cf_byte x 24)) 454 0 (Int32.ofNat (c + 1))) 455 (c + 1) (cf_byte x 16)) 454 0 (Int32.ofNat (c + 1 + 1))) 455 (c + 2) (cf_byte x 8)) 454 0 (Int32.ofNat (c + 2 + 1))) 455 (c + 3) (cf_byte x 0)) 454 0 (Int32.ofNat (c + 3 + 1))))) rfl ?_
          refine zz_fin.if rfl (fun cz => ?_) (fun cz => absurd (by decide) cz)
          refine zz_fin.at (n := 1) rfl ⟨rfl, _, rfl, aa_w_at _ _ _ _, fun i hi => ?_, fun a b e1 e2 => ?_⟩
          · have h4 : i = 0 ∨ i = 1 ∨ i = 2 ∨ i = 3 := by omega
            rcases h4 with rfl | rfl | rfl | rfl
            · rw [aa_w_ne _ _ (by omega), aa_w_ne _ _ (by omega), aa_w_ne _ _ (by omega), aa_w_ne _ _ (by omega), aa_w_ne _ _ (by omega), aa_w_ne _ _ (by omega), aa_w_ne _ _ (by omega)]
              exact aa_w_at _ _ _ _
            · rw [aa_w_ne _ _ (by omega), aa_w_ne _ _ (by omega), aa_w_ne _ _ (by omega), aa_w_ne _ _ (by omega), aa_w_ne _ _ (by omega)]
              exact aa_w_at _ _ _ _
            · rw [aa_w_ne _ _ (by omega), aa_w_ne _ _ (by omega), aa_w_ne _ _ (by omega)]
              exact aa_w_at _ _ _ _
            · rw [aa_w_ne _ _ (by omega)]
              exact aa_w_at _ _ _ _
          · rw [aa_w_ne _ _ (by omega), aa_w_ne _ _ (by omega), aa_w_ne _ _ (by omega), aa_w_ne _ _ (by omega), aa_w_ne _ _ (by omega), aa_w_ne _ _ (by omega), aa_w_ne _ _ (by omega), aa_w_ne _ _ (by omega)]
theorem fd_appm {g : aa_G} {c : Nat} {x : Int32} (hc : c + 4 ≤ 500) (h0 : g 540 4 = Int32.ofNat c) : zz_fin none 159 (0, zz_in [.ref 540, .int x] (zz_nl 159), [], aa_H g) (fun v h => v = none ∧ ∃ g', h = aa_H g' ∧ fd_ap mf_byte 543 540 4 g g' c x) := by
  refine zz_fin.steps (n := 2) (s' := (3, [some (.ref 540), some (.int x), some (.int 24)], [], aa_H g)) rfl ?_
  refine zz_fin.steps (n := 1) (s' := (4, [some (.ref 540), some (.int x), some (.int 24)], [.int 24], aa_H g)) rfl ?_
  refine zz_fin.if rfl (fun cz => absurd cz (by decide)) (fun cz => ?_)
  refine zz_fin.steps (n := 8) (s' := (19, [some (.ref 540), some (.int x), some (.int 24)], [.int ((x >>> ((24 : Int32) &&& 31)).toInt8.toInt32), .int (g 540 4), .ref 543], aa_H g)) rfl ?_
  rw [h0]
  refine zz_fin.bas2 (n := 500) rfl rfl rfl (zz_inbN (by omega) (by omega)) ?_
  rw [zz_toN (by omega)]
  refine zz_fin.steps (n := 0) (s' := (20, [some (.ref 540), some (.int x), some (.int 24)], [], aa_H (zz_w g 543 (c) (mf_byte x 24)))) rfl ?_
  have k0 : (zz_w g 543 (c) (mf_byte x 24)) 540 4 = Int32.ofNat (c) := (aa_w_ne _ _ (by omega)).trans h0
  refine zz_fin.steps (n := 5) (s' := (27, [some (.ref 540), some (.int x), some (.int 24)], [.int (((zz_w g 543 (c) (mf_byte x 24)) 540 4) + 1), .ref 540], aa_H (zz_w g 543 (c) (mf_byte x 24)))) rfl ?_
  rw [k0, aa_succ]
  refine zz_fin.steps (n := 1) (s' := (30, [some (.ref 540), some (.int x), some (.int 24)], [], aa_H (zz_w (zz_w g 543 (c) (mf_byte x 24)) 540 4 (Int32.ofNat (c + 1))))) rfl ?_
  have h1 : (zz_w (zz_w g 543 (c) (mf_byte x 24)) 540 4 (Int32.ofNat (c + 1))) 540 4 = Int32.ofNat (c + 1) := aa_w_at _ _ _ _
  refine zz_fin.steps (n := 2) (s' := (3, [some (.ref 540), some (.int x), some (.int (24 + (-8)))], [], aa_H (zz_w (zz_w g 543 (c) (mf_byte x 24)) 540 4 (Int32.ofNat (c + 1))))) rfl ?_
  refine zz_fin.steps (n := 0) (s' := (3, [some (.ref 540), some (.int x), some (.int 16)], [], aa_H (zz_w (zz_w g 543 (c) (mf_byte x 24)) 540 4 (Int32.ofNat (c + 1))))) rfl ?_
  refine zz_fin.steps (n := 1) (s' := (4, [some (.ref 540), some (.int x), some (.int 16)], [.int 16], aa_H (zz_w (zz_w g 543 (c) (mf_byte x 24)) 540 4 (Int32.ofNat (c + 1))))) rfl ?_
  refine zz_fin.if rfl (fun cz => absurd cz (by decide)) (fun cz => ?_)
  refine zz_fin.steps (n := 8) (s' := (19, [some (.ref 540), some (.int x), some (.int 16)], [.int ((x >>> ((16 : Int32) &&& 31)).toInt8.toInt32), .int ((zz_w (zz_w g 543 (c) (mf_byte x 24)) 540 4 (Int32.ofNat (c + 1))) 540 4), .ref 543], aa_H (zz_w (zz_w g 543 (c) (mf_byte x 24)) 540 4 (Int32.ofNat (c + 1))))) rfl ?_
  rw [h1]
  refine zz_fin.bas2 (n := 500) rfl rfl rfl (zz_inbN (by omega) (by omega)) ?_
  rw [zz_toN (by omega)]
  refine zz_fin.steps (n := 0) (s' := (20, [some (.ref 540), some (.int x), some (.int 16)], [], aa_H (zz_w (zz_w (zz_w g 543 (c) (mf_byte x 24)) 540 4 (Int32.ofNat (c + 1))) 543 (c + 1) (mf_byte x 16)))) rfl ?_
  have k1 : (zz_w (zz_w (zz_w g 543 (c) (mf_byte x 24)) 540 4 (Int32.ofNat (c + 1))) 543 (c + 1) (mf_byte x 16)) 540 4 = Int32.ofNat (c + 1) := (aa_w_ne _ _ (by omega)).trans h1
  refine zz_fin.steps (n := 5) (s' := (27, [some (.ref 540), some (.int x), some (.int 16)], [.int (((zz_w (zz_w (zz_w g 543 (c) (mf_byte x 24)) 540 4 (Int32.ofNat (c + 1))) 543 (c + 1) (mf_byte x 16)) 540 4) + 1), .ref 540], aa_H (zz_w (zz_w (zz_w g 543 (c) (mf_byte x 24)) 540 4 (Int32.ofNat (c + 1))) 543 (c + 1) (mf_byte x 16)))) rfl ?_
  rw [k1, aa_succ]
  refine zz_fin.steps (n := 1) (s' := (30, [some (.ref 540), some (.int x), some (.int 16)], [], aa_H (zz_w (zz_w (zz_w (zz_w g 543 (c) (mf_byte x 24)) 540 4 (Int32.ofNat (c + 1))) 543 (c + 1) (mf_byte x 16)) 540 4 (Int32.ofNat (c + 1 + 1))))) rfl ?_
  have h2 : (zz_w (zz_w (zz_w (zz_w g 543 (c) (mf_byte x 24)) 540 4 (Int32.ofNat (c + 1))) 543 (c + 1) (mf_byte x 16)) 540 4 (Int32.ofNat (c + 1 + 1))) 540 4 = Int32.ofNat (c + 2) := aa_w_at _ _ _ _
  refine zz_fin.steps (n := 2) (s' := (3, [some (.ref 540), some (.int x), some (.int (16 + (-8)))], [], aa_H (zz_w (zz_w (zz_w (zz_w g 543 (c) (mf_byte x 24)) 540 4 (Int32.ofNat (c + 1))) 543 (c + 1) (mf_byte x 16)) 540 4 (Int32.ofNat (c + 1 + 1))))) rfl ?_
  refine zz_fin.steps (n := 0) (s' := (3, [some (.ref 540), some (.int x), some (.int 8)], [], aa_H (zz_w (zz_w (zz_w (zz_w g 543 (c) (mf_byte x 24)) 540 4 (Int32.ofNat (c + 1))) 543 (c + 1) (mf_byte x 16)) 540 4 (Int32.ofNat (c + 1 + 1))))) rfl ?_
  refine zz_fin.steps (n := 1) (s' := (4, [some (.ref 540), some (.int x), some (.int 8)], [.int 8], aa_H (zz_w (zz_w (zz_w (zz_w g 543 (c) (mf_byte x 24)) 540 4 (Int32.ofNat (c + 1))) 543 (c + 1) (mf_byte x 16)) 540 4 (Int32.ofNat (c + 1 + 1))))) rfl ?_
  refine zz_fin.if rfl (fun cz => absurd cz (by decide)) (fun cz => ?_)
  refine zz_fin.steps (n := 8) (s' := (19, [some (.ref 540), some (.int x), some (.int 8)], [.int ((x >>> ((8 : Int32) &&& 31)).toInt8.toInt32), .int ((zz_w (zz_w (zz_w (zz_w g 543 (c) (mf_byte x 24)) 540 4 (Int32.ofNat (c + 1))) 543 (c + 1) (mf_byte x 16)) 540 4 (Int32.ofNat (c + 1 + 1))) 540 4), .ref 543], aa_H (zz_w (zz_w (zz_w (zz_w g 543 (c) (mf_byte x 24)) 540 4 (Int32.ofNat (c + 1))) 543 (c + 1) (mf_byte x 16)) 540 4 (Int32.ofNat (c + 1 + 1))))) rfl ?_
  rw [h2]
  refine zz_fin.bas2 (n := 500) rfl rfl rfl (zz_inbN (by omega) (by omega)) ?_
  rw [zz_toN (by omega)]
  refine zz_fin.steps (n := 0) (s' := (20, [some (.ref 540), some (.int x), some (.int 8)], [], aa_H (zz_w (zz_w (zz_w (zz_w (zz_w g 543 (c) (mf_byte x 24)) 540 4 (Int32.ofNat (c + 1))) 543 (c + 1) (mf_byte x 16)) 540 4 (Int32.ofNat (c + 1 + 1))) 543 (c + 2) (mf_byte x 8)))) rfl ?_
  have k2 : (zz_w (zz_w (zz_w (zz_w (zz_w g 543 (c) (mf_byte x 24)) 540 4 (Int32.ofNat (c + 1))) 543 (c + 1) (mf_byte x 16)) 540 4 (Int32.ofNat (c + 1 + 1))) 543 (c + 2) (mf_byte x 8)) 540 4 = Int32.ofNat (c + 2) := (aa_w_ne _ _ (by omega)).trans h2
  refine zz_fin.steps (n := 5) (s' := (27, [some (.ref 540), some (.int x), some (.int 8)], [.int (((zz_w (zz_w (zz_w (zz_w (zz_w g 543 (c) (mf_byte x 24)) 540 4 (Int32.ofNat (c + 1))) 543 (c + 1) (mf_byte x 16)) 540 4 (Int32.ofNat (c + 1 + 1))) 543 (c + 2) (mf_byte x 8)) 540 4) + 1), .ref 540], aa_H (zz_w (zz_w (zz_w (zz_w (zz_w g 543 (c) (mf_byte x 24)) 540 4 (Int32.ofNat (c + 1))) 543 (c + 1) (mf_byte x 16)) 540 4 (Int32.ofNat (c + 1 + 1))) 543 (c + 2) (mf_byte x 8)))) rfl ?_
  rw [k2, aa_succ]
  refine zz_fin.steps (n := 1) (s' := (30, [some (.ref 540), some (.int x), some (.int 8)], [], aa_H (zz_w (zz_w (zz_w (zz_w (zz_w (zz_w g 543 (c) (mf_byte x 24)) 540 4 (Int32.ofNat (c + 1))) 543 (c + 1) (mf_byte x 16)) 540 4 (Int32.ofNat (c + 1 + 1))) 543 (c + 2) (mf_byte x 8)) 540 4 (Int32.ofNat (c + 2 + 1))))) rfl ?_
  have h3 : (zz_w (zz_w (zz_w (zz_w (zz_w (zz_w g 543 (c) (mf_byte x 24)) 540 4 (Int32.ofNat (c + 1))) 543 (c + 1) (mf_byte x 16)) 540 4 (Int32.ofNat (c + 1 + 1))) 543 (c + 2) (mf_byte x 8)) 540 4 (Int32.ofNat (c + 2 + 1))) 540 4 = Int32.ofNat (c + 3) := aa_w_at _ _ _ _
  refine zz_fin.steps (n := 2) (s' := (3, [some (.ref 540), some (.int x), some (.int (8 + (-8)))], [], aa_H (zz_w (zz_w (zz_w (zz_w (zz_w (zz_w g 543 (c) (mf_byte x 24)) 540 4 (Int32.ofNat (c + 1))) 543 (c + 1) (mf_byte x 16)) 540 4 (Int32.ofNat (c + 1 + 1))) 543 (c + 2) (mf_byte x 8)) 540 4 (Int32.ofNat (c + 2 + 1))))) rfl ?_
  refine zz_fin.steps (n := 0) (s' := (3, [some (.ref 540), some (.int x), some (.int 0)], [], aa_H (zz_w (zz_w (zz_w (zz_w (zz_w (zz_w g 543 (c) (mf_byte x 24)) 540 4 (Int32.ofNat (c + 1))) 543 (c + 1) (mf_byte x 16)) 540 4 (Int32.ofNat (c + 1 + 1))) 543 (c + 2) (mf_byte x 8)) 540 4 (Int32.ofNat (c + 2 + 1))))) rfl ?_
  refine zz_fin.steps (n := 1) (s' := (4, [some (.ref 540), some (.int x), some (.int 0)], [.int 0], aa_H (zz_w (zz_w (zz_w (zz_w (zz_w (zz_w g 543 (c) (mf_byte x 24)) 540 4 (Int32.ofNat (c + 1))) 543 (c + 1) (mf_byte x 16)) 540 4 (Int32.ofNat (c + 1 + 1))) 543 (c + 2) (mf_byte x 8)) 540 4 (Int32.ofNat (c + 2 + 1))))) rfl ?_
  refine zz_fin.if rfl (fun cz => absurd cz (by decide)) (fun cz => ?_)
  refine zz_fin.steps (n := 8) (s' := (19, [some (.ref 540), some (.int x), some (.int 0)], [.int ((x >>> ((0 : Int32) &&& 31)).toInt8.toInt32), .int ((zz_w (zz_w (zz_w (zz_w (zz_w (zz_w g 543 (c) (mf_byte x 24)) 540 4 (Int32.ofNat (c + 1))) 543 (c + 1) (mf_byte x 16)) 540 4 (Int32.ofNat (c + 1 + 1))) 543 (c + 2) (mf_byte x 8)) 540 4 (Int32.ofNat (c + 2 + 1))) 540 4), .ref 543], aa_H (zz_w (zz_w (zz_w (zz_w (zz_w (zz_w g 543 (c) (mf_byte x 24)) 540 4 (Int32.ofNat (c + 1))) 543 (c + 1) (mf_byte x 16)) 540 4 (Int32.ofNat (c + 1 + 1))) 543 (c + 2) (mf_byte x 8)) 540 4 (Int32.ofNat (c + 2 + 1))))) rfl ?_
  rw [h3]
  refine zz_fin.bas2 (n := 500) rfl rfl rfl (zz_inbN (by omega) (by omega)) ?_
  rw [zz_toN (by omega)]
  refine zz_fin.steps (n := 0) (s' := (20, [some (.ref 540), some (.int x), some (.int 0)], [], aa_H (zz_w (zz_w (zz_w (zz_w (zz_w (zz_w (zz_w g 543 (c) (mf_byte x 24)) 540 4 (Int32.ofNat (c + 1))) 543 (c + 1) (mf_byte x 16)) 540 4 (Int32.ofNat (c + 1 + 1))) 543 (c + 2) (mf_byte x 8)) 540 4 (Int32.ofNat (c + 2 + 1))) 543 (c + 3) (mf_byte x 0)))) rfl ?_
  have k3 : (zz_w (zz_w (zz_w (zz_w (zz_w (zz_w (zz_w g 543 (c) (mf_byte x 24)) 540 4 (Int32.ofNat (c + 1))) 543 (c + 1) (mf_byte x 16)) 540 4 (Int32.ofNat (c + 1 + 1))) 543 (c + 2) (mf_byte x 8)) 540 4 (Int32.ofNat (c + 2 + 1))) 543 (c + 3) (mf_byte x 0)) 540 4 = Int32.ofNat (c + 3) := (aa_w_ne _ _ (by omega)).trans h3
  refine zz_fin.steps (n := 5) (s' := (27, [some (.ref 540), some (.int x), some (.int 0)], [.int (((zz_w (zz_w (zz_w (zz_w (zz_w (zz_w (zz_w g 543 (c) (mf_byte x 24)) 540 4 (Int32.ofNat (c + 1))) 543 (c + 1) (mf_byte x 16)) 540 4 (Int32.ofNat (c + 1 + 1))) 543 (c + 2) (mf_byte x 8)) 540 4 (Int32.ofNat (c + 2 + 1))) 543 (c + 3) (mf_byte x 0)) 540 4) + 1), .ref 540], aa_H (zz_w (zz_w (zz_w (zz_w (zz_w (zz_w (zz_w g 543 (c) (mf_byte x 24)) 540 4 (Int32.ofNat (c + 1))) 543 (c + 1) (mf_byte x 16)) 540 4 (Int32.ofNat (c + 1 + 1))) 543 (c + 2) (mf_byte x 8)) 540 4 (Int32.ofNat (c + 2 + 1))) 543 (c + 3) (mf_byte x 0)))) rfl ?_
  rw [k3, aa_succ]
  refine zz_fin.steps (n := 1) (s' := (30, [some (.ref 540), some (.int x), some (.int 0)], [], aa_H (zz_w (zz_w (zz_w (zz_w (zz_w (zz_w (zz_w (zz_w g 543 (c) (mf_byte x 24)) 540 4 (Int32.ofNat (c + 1))) 543 (c + 1) (mf_byte x 16)) 540 4 (Int32.ofNat (c + 1 + 1))) 543 (c + 2) (mf_byte x 8)) 540 4 (Int32.ofNat (c + 2 + 1))) 543 (c + 3) (mf_byte x 0)) 540 4 (Int32.ofNat (c + 3 + 1))))) rfl ?_
  have h4 : (zz_w (zz_w (zz_w (zz_w (zz_w (zz_w (zz_w (zz_w g 543 (c) (mf_byte x 24)) 540 4 (Int32.ofNat (c + 1))) 543 (c + 1) (mf_byte x 16)) 540 4 (Int32.ofNat (c + 1 + 1))) 543 (c + 2) (mf_byte x 8)) 540 4 (Int32.ofNat (c + 2 + 1))) 543 (c + 3) (mf_byte x 0)) 540 4 (Int32.ofNat (c + 3 + 1))) 540 4 = Int32.ofNat (c + 4) := aa_w_at _ _ _ _
  refine zz_fin.steps (n := 2) (s' := (3, [some (.ref 540), some (.int x), some (.int (0 + (-8)))], [], aa_H (zz_w (zz_w (zz_w (zz_w (zz_w (zz_w (zz_w (zz_w g 543 (c) (mf_byte x 24)) 540 4 (Int32.ofNat (c + 1))) 543 (c + 1) (mf_byte x 16)) 540 4 (Int32.ofNat (c + 1 + 1))) 543 (c + 2) (mf_byte x 8)) 540 4 (Int32.ofNat (c + 2 + 1))) 543 (c + 3) (mf_byte x 0)) 540 4 (Int32.ofNat (c + 3 + 1))))) rfl ?_
  refine zz_fin.steps (n := 0) (s' := (3, [some (.ref 540), some (.int x), some (.int (-8))], [], aa_H (zz_w (zz_w (zz_w (zz_w (zz_w (zz_w (zz_w (zz_w g 543 (c) (mf_byte x 24)) 540 4 (Int32.ofNat (c + 1))) 543 (c + 1) (mf_byte x 16)) 540 4 (Int32.ofNat (c + 1 + 1))) 543 (c + 2) (mf_byte x 8)) 540 4 (Int32.ofNat (c + 2 + 1))) 543 (c + 3) (mf_byte x 0)) 540 4 (Int32.ofNat (c + 3 + 1))))) rfl ?_
  refine zz_fin.steps (n := 1) (s' := (4, [some (.ref 540), some (.int x), some (.int (-8))], [.int (-8)], aa_H (zz_w (zz_w (zz_w (zz_w (zz_w (zz_w (zz_w (zz_w g 543 (c) (mf_byte x 24)) 540 4 (Int32.ofNat (c + 1))) 543 (c + 1) (mf_byte x 16)) 540 4 (Int32.ofNat (c + 1 + 1))) 543 (c + 2) (mf_byte x 8)) 540 4 (Int32.ofNat (c + 2 + 1))) 543 (c + 3) (mf_byte x 0)) 540 4 (Int32.ofNat (c + 3 + 1))))) rfl ?_
  refine zz_fin.if rfl (fun cz => ?_) (fun cz => absurd (by decide) cz)
  refine zz_fin.at (n := 1) rfl ⟨rfl, _, rfl, aa_w_at _ _ _ _, fun i hi => ?_, fun a b e1 e2 => ?_⟩
  · have h4 : i = 0 ∨ i = 1 ∨ i = 2 ∨ i = 3 := by omega
    rcases h4 with rfl | rfl | rfl | rfl
    · rw [aa_w_ne _ _ (by omega), aa_w_ne _ _ (by omega), aa_w_ne _ _ (by omega), aa_w_ne _ _ (by omega), aa_w_ne _ _ (by omega), aa_w_ne _ _ (by omega), aa_w_ne _ _ (by omega)]
      exact aa_w_at _ _ _ _
    · rw [aa_w_ne _ _ (by omega), aa_w_ne _ _ (by omega), aa_w_ne _ _ (by omega), aa_w_ne _ _ (by omega), aa_w_ne _ _ (by omega)]
      exact aa_w_at _ _ _ _
    · rw [aa_w_ne _ _ (by omega), aa_w_ne _ _ (by omega), aa_w_ne _ _ (by omega)]
      exact aa_w_at _ _ _ _
    · rw [aa_w_ne _ _ (by omega)]
      exact aa_w_at _ _ _ _
  · rw [aa_w_ne _ _ (by omega), aa_w_ne _ _ (by omega), aa_w_ne _ _ (by omega), aa_w_ne _ _ (by omega), aa_w_ne _ _ (by omega), aa_w_ne _ _ (by omega), aa_w_ne _ _ (by omega), aa_w_ne _ _ (by omega)]
theorem fd_feedc {g : aa_G} {c : Nat} {a0 a1 a2 a3 a4 : Int32} (hc : c ≤ 500) (h0 : g 454 0 = Int32.ofNat c) : zz_fin none 11 (0, zz_in [.ref 1, .int a0, .int a1, .int a2, .int a3, .int a4] (zz_nl 11), [], aa_H g) (fun _ h => ∃ g', h = aa_H g' ∧ ((500 < c + 20 ∧ g' = g) ∨ (c + 20 ≤ 500 ∧ fd_st cf_byte 455 454 0 g g' c 5 (fd_args a0 a1 a2 a3 a4)))) := by
  refine zz_fin.steps (n := 6) (s' := (13, [some (.ref 1), some (.int a0), some (.int a1), some (.int a2), some (.int a3), some (.int a4)], [.int 500, .int ((g 454 0) + 20)], aa_H g)) rfl ?_
  rw [h0, show Int32.ofNat c + 20 = Int32.ofNat (c + 20) from (Int32.ofNat_add c 20).symm]
  refine zz_fin.ic rfl (fun c1 => ?_) (fun c1 => ?_)
  · have c1 : (Int32.ofNat (c + 20)).toInt ≤ (500 : Int32).toInt := aa_le32.mp (of_decide_eq_true c1)
    rw [zz_ofN (by omega), show (500 : Int32).toInt = 500 from rfl] at c1
    have s0 : fd_st cf_byte 455 454 0 g g c 0 (fd_args a0 a1 a2 a3 a4) := fd_st.nil h0
    refine zz_fin.steps (n := 3) (s' := (23, [some (.ref 1), some (.int a0), some (.int a1), some (.int a2), some (.int a3), some (.int a4)], [.int a0, .ref 454], aa_H g)) rfl ?_
    refine zz_fin.call rfl rfl (Nat.le_of_ble_eq_true rfl) (fd_appc (c := c + 4 * 0) (by omega) s0.1) ?_
    rintro v h ⟨rfl, g1, rfl, p1⟩
    have s1 := s0.tr (by decide) p1
    refine zz_fin.steps (n := 3) (s' := (31, [some (.ref 1), some (.int a0), some (.int a1), some (.int a2), some (.int a3), some (.int a4)], [.int a1, .ref 454], aa_H g1)) rfl ?_
    refine zz_fin.call rfl rfl (Nat.le_of_ble_eq_true rfl) (fd_appc (c := c + 4 * 1) (by omega) s1.1) ?_
    rintro v h ⟨rfl, g2, rfl, p2⟩
    have s2 := s1.tr (by decide) p2
    refine zz_fin.steps (n := 3) (s' := (39, [some (.ref 1), some (.int a0), some (.int a1), some (.int a2), some (.int a3), some (.int a4)], [.int a2, .ref 454], aa_H g2)) rfl ?_
    refine zz_fin.call rfl rfl (Nat.le_of_ble_eq_true rfl) (fd_appc (c := c + 4 * 2) (by omega) s2.1) ?_
    rintro v h ⟨rfl, g3, rfl, p3⟩
    have s3 := s2.tr (by decide) p3
    refine zz_fin.steps (n := 3) (s' := (48, [some (.ref 1), some (.int a0), some (.int a1), some (.int a2), some (.int a3), some (.int a4)], [.int a3, .ref 454], aa_H g3)) rfl ?_
    refine zz_fin.call rfl rfl (Nat.le_of_ble_eq_true rfl) (fd_appc (c := c + 4 * 3) (by omega) s3.1) ?_
    rintro v h ⟨rfl, g4, rfl, p4⟩
    have s4 := s3.tr (by decide) p4
    refine zz_fin.steps (n := 3) (s' := (57, [some (.ref 1), some (.int a0), some (.int a1), some (.int a2), some (.int a3), some (.int a4)], [.int a4, .ref 454], aa_H g4)) rfl ?_
    refine zz_fin.call rfl rfl (Nat.le_of_ble_eq_true rfl) (fd_appc (c := c + 4 * 4) (by omega) s4.1) ?_
    rintro v h ⟨rfl, g5, rfl, p5⟩
    have s5 := s4.tr (by decide) p5
    refine zz_fin.steps (n := 3) (s' := (67, [some (.ref 1), some (.int a0), some (.int a1), some (.int a2), some (.int a3), some (.int a4)], [.int (g5 454 0)], aa_H g5)) rfl ?_
    exact zz_fin.at (n := 1) rfl ⟨g5, rfl, .inr ⟨by omega, s5⟩⟩
  · have c1 : ¬ (Int32.ofNat (c + 20)).toInt ≤ (500 : Int32).toInt := fun z => c1 (decide_eq_true (aa_le32.mpr z))
    rw [zz_ofN (by omega), show (500 : Int32).toInt = 500 from rfl] at c1
    refine zz_fin.steps (n := 1) (s' := (17, [some (.ref 1), some (.int a0), some (.int a1), some (.int a2), some (.int a3), some (.int a4)], [.int (-1)], aa_H g)) rfl ?_
    exact zz_fin.at (n := 1) rfl ⟨g, rfl, .inl ⟨by omega, rfl⟩⟩
theorem fd_feedm {g : aa_G} {c : Nat} {a0 a1 a2 a3 a4 : Int32} (hc : c ≤ 500) (h0 : g 540 4 = Int32.ofNat c) : zz_fin none 158 (0, zz_in [.ref 540, .int a0, .int a1, .int a2, .int a3, .int a4] (zz_nl 158), [], aa_H g) (fun _ h => ∃ g', h = aa_H g' ∧ ((500 < c + 20 ∧ g' = g) ∨ (c + 20 ≤ 500 ∧ fd_st mf_byte 543 540 4 g g' c 5 (fd_args a0 a1 a2 a3 a4)))) := by
  refine zz_fin.steps (n := 5) (s' := (10, [some (.ref 540), some (.int a0), some (.int a1), some (.int a2), some (.int a3), some (.int a4)], [.int 500, .int ((g 540 4) + 20)], aa_H g)) rfl ?_
  rw [h0, show Int32.ofNat c + 20 = Int32.ofNat (c + 20) from (Int32.ofNat_add c 20).symm]
  refine zz_fin.ic rfl (fun c1 => ?_) (fun c1 => ?_)
  · have c1 : (Int32.ofNat (c + 20)).toInt ≤ (500 : Int32).toInt := aa_le32.mp (of_decide_eq_true c1)
    rw [zz_ofN (by omega), show (500 : Int32).toInt = 500 from rfl] at c1
    have s0 : fd_st mf_byte 543 540 4 g g c 0 (fd_args a0 a1 a2 a3 a4) := fd_st.nil h0
    refine zz_fin.steps (n := 2) (s' := (17, [some (.ref 540), some (.int a0), some (.int a1), some (.int a2), some (.int a3), some (.int a4)], [.int a0, .ref 540], aa_H g)) rfl ?_
    refine zz_fin.call rfl rfl (Nat.le_of_ble_eq_true rfl) (fd_appm (c := c + 4 * 0) (by omega) s0.1) ?_
    rintro v h ⟨rfl, g1, rfl, p1⟩
    have s1 := s0.tr (by decide) p1
    refine zz_fin.steps (n := 2) (s' := (22, [some (.ref 540), some (.int a0), some (.int a1), some (.int a2), some (.int a3), some (.int a4)], [.int a1, .ref 540], aa_H g1)) rfl ?_
    refine zz_fin.call rfl rfl (Nat.le_of_ble_eq_true rfl) (fd_appm (c := c + 4 * 1) (by omega) s1.1) ?_
    rintro v h ⟨rfl, g2, rfl, p2⟩
    have s2 := s1.tr (by decide) p2
    refine zz_fin.steps (n := 2) (s' := (27, [some (.ref 540), some (.int a0), some (.int a1), some (.int a2), some (.int a3), some (.int a4)], [.int a2, .ref 540], aa_H g2)) rfl ?_
    refine zz_fin.call rfl rfl (Nat.le_of_ble_eq_true rfl) (fd_appm (c := c + 4 * 2) (by omega) s2.1) ?_
    rintro v h ⟨rfl, g3, rfl, p3⟩
    have s3 := s2.tr (by decide) p3
    refine zz_fin.steps (n := 2) (s' := (33, [some (.ref 540), some (.int a0), some (.int a1), some (.int a2), some (.int a3), some (.int a4)], [.int a3, .ref 540], aa_H g3)) rfl ?_
    refine zz_fin.call rfl rfl (Nat.le_of_ble_eq_true rfl) (fd_appm (c := c + 4 * 3) (by omega) s3.1) ?_
    rintro v h ⟨rfl, g4, rfl, p4⟩
    have s4 := s3.tr (by decide) p4
    refine zz_fin.steps (n := 2) (s' := (39, [some (.ref 540), some (.int a0), some (.int a1), some (.int a2), some (.int a3), some (.int a4)], [.int a4, .ref 540], aa_H g4)) rfl ?_
    refine zz_fin.call rfl rfl (Nat.le_of_ble_eq_true rfl) (fd_appm (c := c + 4 * 4) (by omega) s4.1) ?_
    rintro v h ⟨rfl, g5, rfl, p5⟩
    have s5 := s4.tr (by decide) p5
    refine zz_fin.steps (n := 2) (s' := (46, [some (.ref 540), some (.int a0), some (.int a1), some (.int a2), some (.int a3), some (.int a4)], [.int (g5 540 4)], aa_H g5)) rfl ?_
    exact zz_fin.at (n := 1) rfl ⟨g5, rfl, .inr ⟨by omega, s5⟩⟩
  · have c1 : ¬ (Int32.ofNat (c + 20)).toInt ≤ (500 : Int32).toInt := fun z => c1 (decide_eq_true (aa_le32.mpr z))
    rw [zz_ofN (by omega), show (500 : Int32).toInt = 500 from rfl] at c1
    refine zz_fin.steps (n := 1) (s' := (14, [some (.ref 540), some (.int a0), some (.int a1), some (.int a2), some (.int a3), some (.int a4)], [.int (-1)], aa_H g)) rfl ?_
    exact zz_fin.at (n := 1) rfl ⟨g, rfl, .inl ⟨by omega, rfl⟩⟩
/-- the bytes of both tapes are alike -/
def fd_R (g : aa_G) : Prop := ∀ k, k < 500 → g 543 k &&& 255 = g 455 k
theorem fd_R.of {g g' : aa_G} (h : fd_R g) (h1 : ∀ k, k < 500 → g' 543 k = g 543 k) (h2 : ∀ k, k < 500 → g' 455 k = g 455 k) : fd_R g' := fun k hk => by rw [h1 k hk, h2 k hk]; exact h k hk
theorem fd_R.feed {g g1 g2 : aa_G} {c : Nat} {as : Nat → Int32} (h : fd_R g) (h1 : fd_st cf_byte 455 454 0 g g1 c 5 as) (h2 : fd_st mf_byte 543 540 4 g1 g2 c 5 as) : fd_R g2 := fun k hk => by
  by_cases hin : c ≤ k ∧ k < c + 20
  · have e1 := h2.2.1 (k - c) (by omega)
    have e2 := h1.2.1 (k - c) (by omega)
    rw [show c + (k - c) = k by omega] at e1 e2
    rw [e1, h2.2.2 455 k (by omega) (by omega), e2]
    exact fd_byte _ (by omega)
  · rw [h2.2.2 543 k (by omega) (by omega), h2.2.2 455 k (by omega) (by omega), h1.2.2 543 k (by omega) (by omega), h1.2.2 455 k (by omega) (by omega)]
    exact h k hk
