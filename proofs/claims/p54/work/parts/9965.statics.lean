/-! THE LAW: a number picked, things counted (printed by wip/p54/w6.py) -/
section YW6
variable {X : yy_X} {own : yOwn} {h : zz_H} {k v L : Nat} {l : List Int32} {xs : Nat → Int32}
theorem yl_pick (hX : X.1 = some (L, xs)) (hL : L ≤ 100000) {k : Int} (hk : 0 ≤ k ∧ k ≤ 1000000) : yy_fin X 274 (0, zz_in [.ref 0, .int (Int32.ofInt k)] (zz_nl 274), [], h) (fun r h' => ∃ x : Int, r = some (.int (Int32.ofInt x)) ∧ 0 ≤ x ∧ x ≤ 2147483647 ∧ h' = h) := by
  refine yy_fin.steps (n := 1) (s' := (1, [some (.ref 0), some (.int (Int32.ofInt k))], [.ref 0], h)) rfl ?_
  refine yy_fin.xlen rfl hX ?_
  rw [yi_n]
  refine yy_fin.if rfl (fun c1 => ?_) (fun c1 => ?_)
  · have c1 := (yi_z_ne (a := (L : Int)) (by omega)).mp c1
    have hL0 : Int32.ofInt (L : Int) ≠ 0 := fun z => by have z := (yi_eq (a := (L : Int)) (b := 0) (by omega) (by omega)).mp z; omega
    have hm := Int.emod_nonneg k (show (L : Int) ≠ 0 by omega)
    have hm2 := Int.emod_lt_of_pos k (show (0 : Int) < L by omega)
    have hq := Int.ediv_nonneg hk.1 (show (0 : Int) ≤ L by omega)
    have hq2 := Int.ediv_le_self (L : Int) hk.1
    refine yy_fin.steps (n := 3) (s' := (12, [some (.ref 0), some (.int (Int32.ofInt k))], [.ref 0, .int (Int32.ofInt k), .ref 0], h)) rfl ?_
    refine yy_fin.xlen rfl hX ?_
    rw [yi_n]
    refine yy_fin.rm rfl hL0 ?_
    rw [yi_rem (a := k) (b := (L : Int)) (by omega) (by omega)]
    refine yy_fin.xal rfl hX (yi_inb (a := k % (L : Int)) (by omega) (by omega) (by omega)) ?_
    refine yy_fin.steps (n := 2) (s' := (17, [some (.ref 0), some (.int (Int32.ofInt k))], [.ref 0, .int (Int32.ofInt k), .int (xs (Int32.ofInt (k % (L : Int))).toNatClampNeg)], h)) rfl ?_
    refine yy_fin.xlen rfl hX ?_
    rw [yi_n]
    refine yy_fin.dv rfl hL0 ?_
    rw [yi_div (a := k) (b := (L : Int)) (by omega) (by omega)]
    refine yy_fin.steps (n := 1) (s' := (21, [some (.ref 0), some (.int (Int32.ofInt k))], [.int (Int32.ofInt 8), .int (Int32.ofInt (k / (L : Int))), .int (xs (Int32.ofInt (k % (L : Int))).toNatClampNeg)], h)) rfl ?_
    refine yy_fin.rm rfl (by decide) ?_
    rw [yi_rem (a := k / (L : Int)) (b := 8) (by omega) (by omega)]
    refine yy_fin.steps (n := 3) (s' := (26, [some (.ref 0), some (.int (Int32.ofInt k))], [.int (((xs (Int32.ofInt (k % (L : Int))).toNatClampNeg) >>> ((Int32.ofInt (k / (L : Int) % 8)) &&& 31)) &&& (Int32.ofInt 2147483647))], h)) rfl ?_
    have hb := aa_and_le (((xs (Int32.ofInt (k % (L : Int))).toNatClampNeg) >>> ((Int32.ofInt (k / (L : Int) % 8)) &&& 31))) (Int32.ofInt 2147483647) (by decide)
    exact yy_fin.at (n := 1) rfl ⟨_, by rw [yi_of], hb.1, hb.2, rfl⟩
  · have c1 := mt (yi_z_ne (a := (L : Int)) (by omega)).mpr c1
    refine yy_fin.steps (n := 2) (s' := (26, [some (.ref 0), some (.int (Int32.ofInt k))], [.int (Int32.ofInt 0)], h)) rfl ?_
    exact yy_fin.at (n := 1) rfl ⟨0, rfl, by decide, by decide, rfl⟩
/-- a thing begins here: a letter, or a figure behind none -/
def y_one (p z : Int) : Int := if (97 ≤ z ∧ z ≤ 122) ∨ ((48 ≤ z ∧ z ≤ 57) ∧ ¬ (48 ≤ p ∧ p ≤ 57)) then 1 else 0
def y_ct : Int → List Int32 → Int
  | _, [] => 0
  | p, x :: r => y_one p x.toInt + y_ct x.toInt r
theorem y_ct_b : ∀ (l : List Int32) (p : Int), 0 ≤ y_ct p l ∧ y_ct p l ≤ l.length
  | [], _ => ⟨Int.le_refl _, Int.le_refl _⟩
  | x :: r, p => by
    have h1 := y_ct_b r x.toInt
    have h2 : 0 ≤ y_one p x.toInt ∧ y_one p x.toInt ≤ 1 := by unfold y_one; split <;> omega
    rw [List.length_cons]
    unfold y_ct
    omega
theorem y_ct_figs : ∀ (ds : List Int32) (p : Int) (r : List Int32), (∀ d ∈ ds, y_fig d) → (48 ≤ p ∧ p ≤ 57) → ∃ q, y_ct p (ds ++ r) = y_ct q r ∧ (48 ≤ q ∧ q ≤ 57)
  | [], p, r, _, hp => ⟨p, rfl, hp⟩
  | d :: ds, p, r, hd, hp => by
    have hf := hd d (List.mem_cons_self ..)
    unfold y_fig at hf
    obtain ⟨q, e, hq⟩ := y_ct_figs ds d.toInt r (fun x hx => hd x (List.mem_cons_of_mem _ hx)) hf
    refine ⟨q, ?_, hq⟩
    show y_one p d.toInt + y_ct d.toInt (ds ++ r) = _
    rw [e]
    unfold y_one
    rw [if_neg (by omega), Int.zero_add]
theorem y_ct_th {t : fl_T} {p : Int} {r : List Int32} (ht : y_tok t) (hp : ¬ (48 ≤ p ∧ p ≤ 57)) : ∃ q, y_ct p (y_th t ++ r) = 1 + y_ct q r := by
  unfold y_th
  rcases ht with ⟨k0, v1, v2⟩ | ⟨kk, v0⟩
  · rw [if_pos k0]
    have hfd := y_dig_fig t.2.2.toInt.toNat
    obtain ⟨d, ds, ed⟩ := y_fig_dig (n := t.2.2.toInt.toNat)
    rw [ed] at hfd ⊢
    have hf := hfd d (List.mem_cons_self ..)
    unfold y_fig at hf
    obtain ⟨q, e, -⟩ := y_ct_figs ds d.toInt r (fun x hx => hfd x (List.mem_cons_of_mem _ hx)) hf
    refine ⟨q, ?_⟩
    show y_one p d.toInt + y_ct d.toInt (ds ++ r) = _
    rw [e]
    unfold y_one
    rw [if_pos (by omega)]
  · rw [if_neg (by rcases kk with e | e | e | e | e <;> (rw [e]; decide))]
    refine ⟨t.2.1.toInt, ?_⟩
    show y_one p t.2.1.toInt + y_ct t.2.1.toInt r = _
    have hb : 97 ≤ t.2.1.toInt ∧ t.2.1.toInt ≤ 122 := by rcases kk with e | e | e | e | e <;> (rw [e]; decide)
    unfold y_one
    rw [if_pos (by omega)]
theorem y_ct_rn : ∀ (r : List fl_T) (p : Int), y_tks r → y_ct p (y_rn r) = r.length
  | [], _, _ => rfl
  | t :: r, p, h => by
    obtain ⟨⟨ht, hs⟩, hr⟩ := y_tksC h
    have hb : ¬ (97 ≤ t.1.toInt ∧ t.1.toInt ≤ 122) ∧ ¬ (48 ≤ t.1.toInt ∧ t.1.toInt ≤ 57) := by
      unfold y_sig at hs
      rcases hs with e | e | e | e | e | e | e | e | e <;> (rw [e]; decide)
    obtain ⟨q, e⟩ := y_ct_th (t := t) (p := t.1.toInt) (r := y_rn r) ht hb.2
    show y_one p t.1.toInt + y_ct t.1.toInt (y_th t ++ y_rn r) = _
    rw [e, y_ct_rn r q hr, List.length_cons]
    unfold y_one
    rw [if_neg (by omega)]
    omega
theorem y_ct_cd {l : List Int32} {ts : List fl_T} (h : y_cd l ts) : y_ct (-1) l = ts.length := by
  rcases h.2 with ⟨rfl, rfl⟩ | ⟨t, r0, tc, rc, rfl, rfl, -, ht, hr, -⟩
  · rfl
  · obtain ⟨q, e⟩ := y_ct_th (t := t) (p := -1) (r := y_rn r0) ht (by omega)
    rw [e, y_ct_rn r0 q hr, List.length_cons]
    omega
theorem js_charAtI {X : yy_X} {h : zz_H} {k v : Nat} {l : List Int32} {c : Int32} (o : yT h k v l) (hB : h.1.1 < yy_B) {i : Int} (hi : 0 ≤ i) (ej : l[i.toNat]? = some c) : yy_fin X 330 (0, zz_in [.ref k, .int (Int32.ofInt i)] (zz_nl 330), [], h) (fun r h' => r = some (.int c) ∧ h' = h) := by
  have h1 := js_charAtZ (X := X) o hB ej
  rw [show ((i.toNat : Nat) : Int) = i by omega] at h1
  exact h1
theorem yl_thL (ot : yT h k v l) (hB : h.1.1 < yy_B) : ∀ (d : Nat) (i n p : Int) (a3 a4 : Option Value), 0 ≤ i → i + d = l.length → 0 ≤ n → n ≤ i → ((i = 0 ∧ p = -1) ∨ (0 < i ∧ ∃ c, l[(i - 1).toNat]? = some c ∧ c.toInt = p)) → yy_fin X 277 (4, [some (.ref k), some (.int (Int32.ofInt n)), some (.int (Int32.ofInt i)), a3, a4], [], h) (fun r h' => r = some (.int (Int32.ofInt (n + y_ct p (l.drop i.toNat)))) ∧ h' = h)
  | 0, i, n, p, a3, a4, h0, hd, n0, n1, hp => by
    have hl := ot.2.2.1
    refine yy_fin.steps (n := 2) (s' := (6, [some (.ref k), some (.int (Int32.ofInt n)), some (.int (Int32.ofInt i)), a3, a4], [.ref k, .int (Int32.ofInt i)], h)) rfl ?_
    refine yy_fin.ct (as := []) rfl (by decide) rfl rfl ot hB (Nat.le_of_ble_eq_true rfl) (Nat.le_of_ble_eq_true rfl) (js_lenZ ot hB) ?_
    rintro v h9 ⟨rfl, e9⟩
    obtain rfl := e9.symm
    refine yy_fin.ic rfl (fun cq => ?_) (fun cq => absurd ((yi_c_ge (a := i) (b := (l.length : Int)) (by omega) (by omega)).mpr (by omega)) cq)
    have cq := (yi_c_ge (a := i) (b := (l.length : Int)) (by omega) (by omega)).mp cq
    refine yy_fin.steps (n := 1) (s' := (97, [some (.ref k), some (.int (Int32.ofInt n)), some (.int (Int32.ofInt i)), a3, a4], [.int (Int32.ofInt n)], h)) rfl ?_
    have e9 : l.drop i.toNat = [] := List.drop_eq_nil_iff.mpr (by omega)
    rw [e9]
    exact yy_fin.at (n := 1) rfl ⟨by show some (Value.int (Int32.ofInt n)) = some (.int (Int32.ofInt (n + 0))); rw [Int.add_zero], rfl⟩
  | d + 1, i, n, p, a3, a4, h0, hd, n0, n1, hp => by
    have hl := ot.2.2.1
    obtain ⟨c, ec⟩ : ∃ c, l[i.toNat]? = some c := ⟨_, List.getElem?_eq_getElem (by omega)⟩
    have hc := ot.2.1 c (List.mem_of_getElem? ec)
    have eD : l.drop i.toNat = c :: l.drop (i + 1).toNat := by
      rw [List.drop_eq_getElem_cons (show i.toNat < l.length by omega), show i.toNat + 1 = (i + 1).toNat by omega]
      rw [List.getElem?_eq_getElem (show i.toNat < l.length by omega)] at ec
      rw [Option.some.inj ec]
    obtain ⟨z, ez⟩ : ∃ z, z = c.toInt := ⟨_, rfl⟩
    have eK : y_ct p (l.drop i.toNat) = y_one p z + y_ct z (l.drop (i + 1).toNat) := by rw [eD, ez]; rfl
    rw [eK]
    rw [← ez] at hc
    have hz : c = Int32.ofInt z := by rw [ez, yi_of]
    refine yy_fin.steps (n := 2) (s' := (6, [some (.ref k), some (.int (Int32.ofInt n)), some (.int (Int32.ofInt i)), a3, a4], [.ref k, .int (Int32.ofInt i)], h)) rfl ?_
    refine yy_fin.ct (as := []) rfl (by decide) rfl rfl ot hB (Nat.le_of_ble_eq_true rfl) (Nat.le_of_ble_eq_true rfl) (js_lenZ ot hB) ?_
    rintro v h9 ⟨rfl, e9⟩
    obtain rfl := e9.symm
    refine yy_fin.ic rfl (fun cq => absurd ((yi_c_ge (a := i) (b := (l.length : Int)) (by omega) (by omega)).mp cq) (by omega)) (fun cq => ?_)
    have cq := mt (yi_c_ge (a := i) (b := (l.length : Int)) (by omega) (by omega)).mpr cq
    refine yy_fin.steps (n := 2) (s' := (14, [some (.ref k), some (.int (Int32.ofInt n)), some (.int (Int32.ofInt i)), a3, a4], [.int (Int32.ofInt i), .ref k], h)) rfl ?_
    refine yy_fin.ct (as := [.int (Int32.ofInt i)]) rfl (by decide) rfl rfl ot hB (Nat.le_of_ble_eq_true rfl) (Nat.le_of_ble_eq_true rfl) ((js_charAtI ot hB (i := i) (by omega) ec)) ?_
    rintro v h9 ⟨rfl, e9⟩
    obtain rfl := e9.symm
    rw [hz]
    refine yy_fin.steps (n := 3) (s' := (21, [some (.ref k), some (.int (Int32.ofInt n)), some (.int (Int32.ofInt i)), some (.int (Int32.ofInt z)), a4], [.int (Int32.ofInt 48), .int (Int32.ofInt z)], h)) rfl ?_
    refine yy_fin.ic rfl (fun c1 => ?_) (fun c1 => ?_)
    · have c1 := (yi_c_lt (a := z) (b := 48) (by omega) (by omega)).mp c1
      refine yy_fin.steps (n := 5) (s' := (41, [some (.ref k), some (.int (Int32.ofInt n)), some (.int (Int32.ofInt i)), some (.int (Int32.ofInt z)), some (.int (Int32.ofInt 0))], [.int (Int32.ofInt 97), .int (Int32.ofInt z), .int (Int32.ofInt n)], h)) rfl ?_
      refine yy_fin.ic rfl (fun c2 => ?_) (fun c2 => ?_)
      · have c2 := (yi_c_lt (a := z) (b := 97) (by omega) (by omega)).mp c2
        refine yy_fin.steps (n := 1) (s' := (52, [some (.ref k), some (.int (Int32.ofInt n)), some (.int (Int32.ofInt i)), some (.int (Int32.ofInt z)), some (.int (Int32.ofInt 0))], [.int (Int32.ofInt 0), .int (Int32.ofInt n)], h)) rfl ?_
        refine yy_fin.if rfl (fun cK => ?_) (fun cK => absurd (by decide) cK)
        refine yy_fin.steps (n := 5) (s' := (4, [some (.ref k), some (.int ((Int32.ofInt n) + (Int32.ofInt 0))), some (.int ((Int32.ofInt i) + (Int32.ofInt 1))), some (.int (Int32.ofInt z)), some (.int (Int32.ofInt 0))], [], h)) rfl ?_
        rw [yi_add n 0]
        rw [yi_add i 1]
        have e1 : y_one p z = 0 := by unfold y_one; exact if_neg (by omega)
        rw [e1, show n + (0 + y_ct z (l.drop (i + 1).toNat)) = n + 0 + y_ct z (l.drop (i + 1).toNat) by omega]
        exact yl_thL ot hB d (i + 1) (n + 0) z _ _ (by omega) (by omega) (by omega) (by omega) (Or.inr ⟨by omega, c, by rw [show i + 1 - 1 = i by omega]; exact ec, ez.symm⟩)
      · have c2 := mt (yi_c_lt (a := z) (b := 97) (by omega) (by omega)).mpr c2
        refine yy_fin.steps (n := 2) (s' := (47, [some (.ref k), some (.int (Int32.ofInt n)), some (.int (Int32.ofInt i)), some (.int (Int32.ofInt z)), some (.int (Int32.ofInt 0))], [.int (Int32.ofInt 122), .int (Int32.ofInt z), .int (Int32.ofInt n)], h)) rfl ?_
        refine yy_fin.ic rfl (fun c3 => ?_) (fun c3 => ?_)
        · have c3 := (yi_c_le (a := z) (b := 122) (by omega) (by omega)).mp c3
          refine yy_fin.steps (n := 6) (s' := (4, [some (.ref k), some (.int ((Int32.ofInt n) + (Int32.ofInt 1))), some (.int ((Int32.ofInt i) + (Int32.ofInt 1))), some (.int (Int32.ofInt z)), some (.int (Int32.ofInt 0))], [], h)) rfl ?_
          rw [yi_add n 1]
          rw [yi_add i 1]
          have e1 : y_one p z = 1 := by unfold y_one; exact if_pos (by omega)
          rw [e1, show n + (1 + y_ct z (l.drop (i + 1).toNat)) = n + 1 + y_ct z (l.drop (i + 1).toNat) by omega]
          exact yl_thL ot hB d (i + 1) (n + 1) z _ _ (by omega) (by omega) (by omega) (by omega) (Or.inr ⟨by omega, c, by rw [show i + 1 - 1 = i by omega]; exact ec, ez.symm⟩)
        · have c3 := mt (yi_c_le (a := z) (b := 122) (by omega) (by omega)).mpr c3
          refine yy_fin.steps (n := 1) (s' := (52, [some (.ref k), some (.int (Int32.ofInt n)), some (.int (Int32.ofInt i)), some (.int (Int32.ofInt z)), some (.int (Int32.ofInt 0))], [.int (Int32.ofInt 0), .int (Int32.ofInt n)], h)) rfl ?_
          refine yy_fin.if rfl (fun cK => ?_) (fun cK => absurd (by decide) cK)
          refine yy_fin.steps (n := 5) (s' := (4, [some (.ref k), some (.int ((Int32.ofInt n) + (Int32.ofInt 0))), some (.int ((Int32.ofInt i) + (Int32.ofInt 1))), some (.int (Int32.ofInt z)), some (.int (Int32.ofInt 0))], [], h)) rfl ?_
          rw [yi_add n 0]
          rw [yi_add i 1]
          have e1 : y_one p z = 0 := by unfold y_one; exact if_neg (by omega)
          rw [e1, show n + (0 + y_ct z (l.drop (i + 1).toNat)) = n + 0 + y_ct z (l.drop (i + 1).toNat) by omega]
          exact yl_thL ot hB d (i + 1) (n + 0) z _ _ (by omega) (by omega) (by omega) (by omega) (Or.inr ⟨by omega, c, by rw [show i + 1 - 1 = i by omega]; exact ec, ez.symm⟩)
    · have c1 := mt (yi_c_lt (a := z) (b := 48) (by omega) (by omega)).mpr c1
      refine yy_fin.steps (n := 2) (s' := (27, [some (.ref k), some (.int (Int32.ofInt n)), some (.int (Int32.ofInt i)), some (.int (Int32.ofInt z)), a4], [.int (Int32.ofInt 57), .int (Int32.ofInt z)], h)) rfl ?_
      refine yy_fin.ic rfl (fun c4 => ?_) (fun c4 => ?_)
      · have c4 := (yi_c_gt (a := z) (b := 57) (by omega) (by omega)).mp c4
        refine yy_fin.steps (n := 5) (s' := (41, [some (.ref k), some (.int (Int32.ofInt n)), some (.int (Int32.ofInt i)), some (.int (Int32.ofInt z)), some (.int (Int32.ofInt 0))], [.int (Int32.ofInt 97), .int (Int32.ofInt z), .int (Int32.ofInt n)], h)) rfl ?_
        refine yy_fin.ic rfl (fun c5 => ?_) (fun c5 => ?_)
        · have c5 := (yi_c_lt (a := z) (b := 97) (by omega) (by omega)).mp c5
          refine yy_fin.steps (n := 1) (s' := (52, [some (.ref k), some (.int (Int32.ofInt n)), some (.int (Int32.ofInt i)), some (.int (Int32.ofInt z)), some (.int (Int32.ofInt 0))], [.int (Int32.ofInt 0), .int (Int32.ofInt n)], h)) rfl ?_
          refine yy_fin.if rfl (fun cK => ?_) (fun cK => absurd (by decide) cK)
          refine yy_fin.steps (n := 5) (s' := (4, [some (.ref k), some (.int ((Int32.ofInt n) + (Int32.ofInt 0))), some (.int ((Int32.ofInt i) + (Int32.ofInt 1))), some (.int (Int32.ofInt z)), some (.int (Int32.ofInt 0))], [], h)) rfl ?_
          rw [yi_add n 0]
          rw [yi_add i 1]
          have e1 : y_one p z = 0 := by unfold y_one; exact if_neg (by omega)
          rw [e1, show n + (0 + y_ct z (l.drop (i + 1).toNat)) = n + 0 + y_ct z (l.drop (i + 1).toNat) by omega]
          exact yl_thL ot hB d (i + 1) (n + 0) z _ _ (by omega) (by omega) (by omega) (by omega) (Or.inr ⟨by omega, c, by rw [show i + 1 - 1 = i by omega]; exact ec, ez.symm⟩)
        · have c5 := mt (yi_c_lt (a := z) (b := 97) (by omega) (by omega)).mpr c5
          refine yy_fin.steps (n := 2) (s' := (47, [some (.ref k), some (.int (Int32.ofInt n)), some (.int (Int32.ofInt i)), some (.int (Int32.ofInt z)), some (.int (Int32.ofInt 0))], [.int (Int32.ofInt 122), .int (Int32.ofInt z), .int (Int32.ofInt n)], h)) rfl ?_
          refine yy_fin.ic rfl (fun c6 => ?_) (fun c6 => ?_)
          · have c6 := (yi_c_le (a := z) (b := 122) (by omega) (by omega)).mp c6
            refine yy_fin.steps (n := 6) (s' := (4, [some (.ref k), some (.int ((Int32.ofInt n) + (Int32.ofInt 1))), some (.int ((Int32.ofInt i) + (Int32.ofInt 1))), some (.int (Int32.ofInt z)), some (.int (Int32.ofInt 0))], [], h)) rfl ?_
            rw [yi_add n 1]
            rw [yi_add i 1]
            have e1 : y_one p z = 1 := by unfold y_one; exact if_pos (by omega)
            rw [e1, show n + (1 + y_ct z (l.drop (i + 1).toNat)) = n + 1 + y_ct z (l.drop (i + 1).toNat) by omega]
            exact yl_thL ot hB d (i + 1) (n + 1) z _ _ (by omega) (by omega) (by omega) (by omega) (Or.inr ⟨by omega, c, by rw [show i + 1 - 1 = i by omega]; exact ec, ez.symm⟩)
          · have c6 := mt (yi_c_le (a := z) (b := 122) (by omega) (by omega)).mpr c6
            refine yy_fin.steps (n := 1) (s' := (52, [some (.ref k), some (.int (Int32.ofInt n)), some (.int (Int32.ofInt i)), some (.int (Int32.ofInt z)), some (.int (Int32.ofInt 0))], [.int (Int32.ofInt 0), .int (Int32.ofInt n)], h)) rfl ?_
            refine yy_fin.if rfl (fun cK => ?_) (fun cK => absurd (by decide) cK)
            refine yy_fin.steps (n := 5) (s' := (4, [some (.ref k), some (.int ((Int32.ofInt n) + (Int32.ofInt 0))), some (.int ((Int32.ofInt i) + (Int32.ofInt 1))), some (.int (Int32.ofInt z)), some (.int (Int32.ofInt 0))], [], h)) rfl ?_
            rw [yi_add n 0]
            rw [yi_add i 1]
            have e1 : y_one p z = 0 := by unfold y_one; exact if_neg (by omega)
            rw [e1, show n + (0 + y_ct z (l.drop (i + 1).toNat)) = n + 0 + y_ct z (l.drop (i + 1).toNat) by omega]
            exact yl_thL ot hB d (i + 1) (n + 0) z _ _ (by omega) (by omega) (by omega) (by omega) (Or.inr ⟨by omega, c, by rw [show i + 1 - 1 = i by omega]; exact ec, ez.symm⟩)
      · have c4 := mt (yi_c_gt (a := z) (b := 57) (by omega) (by omega)).mpr c4
        refine yy_fin.steps (n := 6) (s' := (41, [some (.ref k), some (.int (Int32.ofInt n)), some (.int (Int32.ofInt i)), some (.int (Int32.ofInt z)), some (.int (Int32.ofInt 1))], [.int (Int32.ofInt 97), .int (Int32.ofInt z), .int (Int32.ofInt n)], h)) rfl ?_
        refine yy_fin.ic rfl (fun c7 => ?_) (fun c7 => ?_)
        · have c7 := (yi_c_lt (a := z) (b := 97) (by omega) (by omega)).mp c7
          refine yy_fin.steps (n := 1) (s' := (52, [some (.ref k), some (.int (Int32.ofInt n)), some (.int (Int32.ofInt i)), some (.int (Int32.ofInt z)), some (.int (Int32.ofInt 1))], [.int (Int32.ofInt 1), .int (Int32.ofInt n)], h)) rfl ?_
          refine yy_fin.if rfl (fun cK => absurd cK (by decide)) (fun cK => ?_)
          refine yy_fin.steps (n := 1) (s' := (56, [some (.ref k), some (.int (Int32.ofInt n)), some (.int (Int32.ofInt i)), some (.int (Int32.ofInt z)), some (.int (Int32.ofInt 1))], [.int (Int32.ofInt i), .int (Int32.ofInt n)], h)) rfl ?_
          refine yy_fin.if rfl (fun c8 => ?_) (fun c8 => ?_)
          · have c8 := (yi_z_eq (a := i) (by omega)).mp c8
            refine yy_fin.steps (n := 6) (s' := (4, [some (.ref k), some (.int ((Int32.ofInt n) + (Int32.ofInt 1))), some (.int ((Int32.ofInt i) + (Int32.ofInt 1))), some (.int (Int32.ofInt z)), some (.int (Int32.ofInt 1))], [], h)) rfl ?_
            rw [yi_add n 1]
            rw [yi_add i 1]
            have e1 : y_one p z = 1 := by unfold y_one; exact if_pos (by omega)
            rw [e1, show n + (1 + y_ct z (l.drop (i + 1).toNat)) = n + 1 + y_ct z (l.drop (i + 1).toNat) by omega]
            exact yl_thL ot hB d (i + 1) (n + 1) z _ _ (by omega) (by omega) (by omega) (by omega) (Or.inr ⟨by omega, c, by rw [show i + 1 - 1 = i by omega]; exact ec, ez.symm⟩)
          · have c8 := mt (yi_z_eq (a := i) (by omega)).mpr c8
            refine yy_fin.steps (n := 4) (s' := (63, [some (.ref k), some (.int (Int32.ofInt n)), some (.int (Int32.ofInt i)), some (.int (Int32.ofInt z)), some (.int (Int32.ofInt 1))], [.int ((Int32.ofInt i) - (Int32.ofInt 1)), .ref k, .int (Int32.ofInt n)], h)) rfl ?_
            rw [yi_sub i 1]
            obtain ⟨c9, ec9, ep9⟩ : ∃ c, l[(i - 1).toNat]? = some c ∧ c.toInt = p := by
              rcases hp with q | q
              · exact absurd q.1 (by omega)
              · exact q.2
            have hp9 := ot.2.1 c9 (List.mem_of_getElem? ec9)
            rw [ep9] at hp9
            have hz9 : c9 = Int32.ofInt p := by rw [← ep9, yi_of]
            refine yy_fin.ct (as := [.int (Int32.ofInt (i - 1))]) rfl (by decide) rfl rfl ot hB (Nat.le_of_ble_eq_true rfl) (Nat.le_of_ble_eq_true rfl) ((js_charAtI ot hB (i := i - 1) (by omega) ec9)) ?_
            rintro v h9 ⟨rfl, e9⟩
            obtain rfl := e9.symm
            rw [hz9]
            refine yy_fin.steps (n := 1) (s' := (68, [some (.ref k), some (.int (Int32.ofInt n)), some (.int (Int32.ofInt i)), some (.int (Int32.ofInt z)), some (.int (Int32.ofInt 1))], [.int (Int32.ofInt 48), .int (Int32.ofInt p), .int (Int32.ofInt n)], h)) rfl ?_
            refine yy_fin.ic rfl (fun c9 => ?_) (fun c9 => ?_)
            · have c9 := (yi_c_lt (a := p) (b := 48) (by omega) (by omega)).mp c9
              refine yy_fin.steps (n := 6) (s' := (4, [some (.ref k), some (.int ((Int32.ofInt n) + (Int32.ofInt 1))), some (.int ((Int32.ofInt i) + (Int32.ofInt 1))), some (.int (Int32.ofInt z)), some (.int (Int32.ofInt 1))], [], h)) rfl ?_
              rw [yi_add n 1]
              rw [yi_add i 1]
              have e1 : y_one p z = 1 := by unfold y_one; exact if_pos (by omega)
              rw [e1, show n + (1 + y_ct z (l.drop (i + 1).toNat)) = n + 1 + y_ct z (l.drop (i + 1).toNat) by omega]
              exact yl_thL ot hB d (i + 1) (n + 1) z _ _ (by omega) (by omega) (by omega) (by omega) (Or.inr ⟨by omega, c, by rw [show i + 1 - 1 = i by omega]; exact ec, ez.symm⟩)
            · have c9 := mt (yi_c_lt (a := p) (b := 48) (by omega) (by omega)).mpr c9
              refine yy_fin.steps (n := 4) (s' := (75, [some (.ref k), some (.int (Int32.ofInt n)), some (.int (Int32.ofInt i)), some (.int (Int32.ofInt z)), some (.int (Int32.ofInt 1))], [.int ((Int32.ofInt i) - (Int32.ofInt 1)), .ref k, .int (Int32.ofInt n)], h)) rfl ?_
              rw [yi_sub i 1]
              refine yy_fin.ct (as := [.int (Int32.ofInt (i - 1))]) rfl (by decide) rfl rfl ot hB (Nat.le_of_ble_eq_true rfl) (Nat.le_of_ble_eq_true rfl) ((js_charAtI ot hB (i := i - 1) (by omega) ec9)) ?_
              rintro v h9 ⟨rfl, e9⟩
              obtain rfl := e9.symm
              rw [hz9]
              refine yy_fin.steps (n := 1) (s' := (80, [some (.ref k), some (.int (Int32.ofInt n)), some (.int (Int32.ofInt i)), some (.int (Int32.ofInt z)), some (.int (Int32.ofInt 1))], [.int (Int32.ofInt 57), .int (Int32.ofInt p), .int (Int32.ofInt n)], h)) rfl ?_
              refine yy_fin.ic rfl (fun c10 => ?_) (fun c10 => ?_)
              · have c10 := (yi_c_le (a := p) (b := 57) (by omega) (by omega)).mp c10
                refine yy_fin.steps (n := 5) (s' := (4, [some (.ref k), some (.int ((Int32.ofInt n) + (Int32.ofInt 0))), some (.int ((Int32.ofInt i) + (Int32.ofInt 1))), some (.int (Int32.ofInt z)), some (.int (Int32.ofInt 1))], [], h)) rfl ?_
                rw [yi_add n 0]
                rw [yi_add i 1]
                have e1 : y_one p z = 0 := by unfold y_one; exact if_neg (by omega)
                rw [e1, show n + (0 + y_ct z (l.drop (i + 1).toNat)) = n + 0 + y_ct z (l.drop (i + 1).toNat) by omega]
                exact yl_thL ot hB d (i + 1) (n + 0) z _ _ (by omega) (by omega) (by omega) (by omega) (Or.inr ⟨by omega, c, by rw [show i + 1 - 1 = i by omega]; exact ec, ez.symm⟩)
              · have c10 := mt (yi_c_le (a := p) (b := 57) (by omega) (by omega)).mpr c10
                refine yy_fin.steps (n := 6) (s' := (4, [some (.ref k), some (.int ((Int32.ofInt n) + (Int32.ofInt 1))), some (.int ((Int32.ofInt i) + (Int32.ofInt 1))), some (.int (Int32.ofInt z)), some (.int (Int32.ofInt 1))], [], h)) rfl ?_
                rw [yi_add n 1]
                rw [yi_add i 1]
                have e1 : y_one p z = 1 := by unfold y_one; exact if_pos (by omega)
                rw [e1, show n + (1 + y_ct z (l.drop (i + 1).toNat)) = n + 1 + y_ct z (l.drop (i + 1).toNat) by omega]
                exact yl_thL ot hB d (i + 1) (n + 1) z _ _ (by omega) (by omega) (by omega) (by omega) (Or.inr ⟨by omega, c, by rw [show i + 1 - 1 = i by omega]; exact ec, ez.symm⟩)
        · have c7 := mt (yi_c_lt (a := z) (b := 97) (by omega) (by omega)).mpr c7
          refine yy_fin.steps (n := 2) (s' := (47, [some (.ref k), some (.int (Int32.ofInt n)), some (.int (Int32.ofInt i)), some (.int (Int32.ofInt z)), some (.int (Int32.ofInt 1))], [.int (Int32.ofInt 122), .int (Int32.ofInt z), .int (Int32.ofInt n)], h)) rfl ?_
          refine yy_fin.ic rfl (fun c11 => ?_) (fun c11 => ?_)
          · have c11 := (yi_c_le (a := z) (b := 122) (by omega) (by omega)).mp c11
            refine yy_fin.steps (n := 6) (s' := (4, [some (.ref k), some (.int ((Int32.ofInt n) + (Int32.ofInt 1))), some (.int ((Int32.ofInt i) + (Int32.ofInt 1))), some (.int (Int32.ofInt z)), some (.int (Int32.ofInt 1))], [], h)) rfl ?_
            rw [yi_add n 1]
            rw [yi_add i 1]
            have e1 : y_one p z = 1 := by unfold y_one; exact if_pos (by omega)
            rw [e1, show n + (1 + y_ct z (l.drop (i + 1).toNat)) = n + 1 + y_ct z (l.drop (i + 1).toNat) by omega]
            exact yl_thL ot hB d (i + 1) (n + 1) z _ _ (by omega) (by omega) (by omega) (by omega) (Or.inr ⟨by omega, c, by rw [show i + 1 - 1 = i by omega]; exact ec, ez.symm⟩)
          · have c11 := mt (yi_c_le (a := z) (b := 122) (by omega) (by omega)).mpr c11
            refine yy_fin.steps (n := 1) (s' := (52, [some (.ref k), some (.int (Int32.ofInt n)), some (.int (Int32.ofInt i)), some (.int (Int32.ofInt z)), some (.int (Int32.ofInt 1))], [.int (Int32.ofInt 1), .int (Int32.ofInt n)], h)) rfl ?_
            refine yy_fin.if rfl (fun cK => absurd cK (by decide)) (fun cK => ?_)
            refine yy_fin.steps (n := 1) (s' := (56, [some (.ref k), some (.int (Int32.ofInt n)), some (.int (Int32.ofInt i)), some (.int (Int32.ofInt z)), some (.int (Int32.ofInt 1))], [.int (Int32.ofInt i), .int (Int32.ofInt n)], h)) rfl ?_
            refine yy_fin.if rfl (fun c12 => ?_) (fun c12 => ?_)
            · have c12 := (yi_z_eq (a := i) (by omega)).mp c12
              refine yy_fin.steps (n := 6) (s' := (4, [some (.ref k), some (.int ((Int32.ofInt n) + (Int32.ofInt 1))), some (.int ((Int32.ofInt i) + (Int32.ofInt 1))), some (.int (Int32.ofInt z)), some (.int (Int32.ofInt 1))], [], h)) rfl ?_
              rw [yi_add n 1]
              rw [yi_add i 1]
              have e1 : y_one p z = 1 := by unfold y_one; exact if_pos (by omega)
              rw [e1, show n + (1 + y_ct z (l.drop (i + 1).toNat)) = n + 1 + y_ct z (l.drop (i + 1).toNat) by omega]
              exact yl_thL ot hB d (i + 1) (n + 1) z _ _ (by omega) (by omega) (by omega) (by omega) (Or.inr ⟨by omega, c, by rw [show i + 1 - 1 = i by omega]; exact ec, ez.symm⟩)
            · have c12 := mt (yi_z_eq (a := i) (by omega)).mpr c12
              refine yy_fin.steps (n := 4) (s' := (63, [some (.ref k), some (.int (Int32.ofInt n)), some (.int (Int32.ofInt i)), some (.int (Int32.ofInt z)), some (.int (Int32.ofInt 1))], [.int ((Int32.ofInt i) - (Int32.ofInt 1)), .ref k, .int (Int32.ofInt n)], h)) rfl ?_
              rw [yi_sub i 1]
              obtain ⟨c9, ec9, ep9⟩ : ∃ c, l[(i - 1).toNat]? = some c ∧ c.toInt = p := by
                rcases hp with q | q
                · exact absurd q.1 (by omega)
                · exact q.2
              have hp9 := ot.2.1 c9 (List.mem_of_getElem? ec9)
              rw [ep9] at hp9
              have hz9 : c9 = Int32.ofInt p := by rw [← ep9, yi_of]
              refine yy_fin.ct (as := [.int (Int32.ofInt (i - 1))]) rfl (by decide) rfl rfl ot hB (Nat.le_of_ble_eq_true rfl) (Nat.le_of_ble_eq_true rfl) ((js_charAtI ot hB (i := i - 1) (by omega) ec9)) ?_
              rintro v h9 ⟨rfl, e9⟩
              obtain rfl := e9.symm
              rw [hz9]
              refine yy_fin.steps (n := 1) (s' := (68, [some (.ref k), some (.int (Int32.ofInt n)), some (.int (Int32.ofInt i)), some (.int (Int32.ofInt z)), some (.int (Int32.ofInt 1))], [.int (Int32.ofInt 48), .int (Int32.ofInt p), .int (Int32.ofInt n)], h)) rfl ?_
              refine yy_fin.ic rfl (fun c13 => ?_) (fun c13 => ?_)
              · have c13 := (yi_c_lt (a := p) (b := 48) (by omega) (by omega)).mp c13
                refine yy_fin.steps (n := 6) (s' := (4, [some (.ref k), some (.int ((Int32.ofInt n) + (Int32.ofInt 1))), some (.int ((Int32.ofInt i) + (Int32.ofInt 1))), some (.int (Int32.ofInt z)), some (.int (Int32.ofInt 1))], [], h)) rfl ?_
                rw [yi_add n 1]
                rw [yi_add i 1]
                have e1 : y_one p z = 1 := by unfold y_one; exact if_pos (by omega)
                rw [e1, show n + (1 + y_ct z (l.drop (i + 1).toNat)) = n + 1 + y_ct z (l.drop (i + 1).toNat) by omega]
                exact yl_thL ot hB d (i + 1) (n + 1) z _ _ (by omega) (by omega) (by omega) (by omega) (Or.inr ⟨by omega, c, by rw [show i + 1 - 1 = i by omega]; exact ec, ez.symm⟩)
              · have c13 := mt (yi_c_lt (a := p) (b := 48) (by omega) (by omega)).mpr c13
                refine yy_fin.steps (n := 4) (s' := (75, [some (.ref k), some (.int (Int32.ofInt n)), some (.int (Int32.ofInt i)), some (.int (Int32.ofInt z)), some (.int (Int32.ofInt 1))], [.int ((Int32.ofInt i) - (Int32.ofInt 1)), .ref k, .int (Int32.ofInt n)], h)) rfl ?_
                rw [yi_sub i 1]
                refine yy_fin.ct (as := [.int (Int32.ofInt (i - 1))]) rfl (by decide) rfl rfl ot hB (Nat.le_of_ble_eq_true rfl) (Nat.le_of_ble_eq_true rfl) ((js_charAtI ot hB (i := i - 1) (by omega) ec9)) ?_
                rintro v h9 ⟨rfl, e9⟩
                obtain rfl := e9.symm
                rw [hz9]
                refine yy_fin.steps (n := 1) (s' := (80, [some (.ref k), some (.int (Int32.ofInt n)), some (.int (Int32.ofInt i)), some (.int (Int32.ofInt z)), some (.int (Int32.ofInt 1))], [.int (Int32.ofInt 57), .int (Int32.ofInt p), .int (Int32.ofInt n)], h)) rfl ?_
                refine yy_fin.ic rfl (fun c14 => ?_) (fun c14 => ?_)
                · have c14 := (yi_c_le (a := p) (b := 57) (by omega) (by omega)).mp c14
                  refine yy_fin.steps (n := 5) (s' := (4, [some (.ref k), some (.int ((Int32.ofInt n) + (Int32.ofInt 0))), some (.int ((Int32.ofInt i) + (Int32.ofInt 1))), some (.int (Int32.ofInt z)), some (.int (Int32.ofInt 1))], [], h)) rfl ?_
                  rw [yi_add n 0]
                  rw [yi_add i 1]
                  have e1 : y_one p z = 0 := by unfold y_one; exact if_neg (by omega)
                  rw [e1, show n + (0 + y_ct z (l.drop (i + 1).toNat)) = n + 0 + y_ct z (l.drop (i + 1).toNat) by omega]
                  exact yl_thL ot hB d (i + 1) (n + 0) z _ _ (by omega) (by omega) (by omega) (by omega) (Or.inr ⟨by omega, c, by rw [show i + 1 - 1 = i by omega]; exact ec, ez.symm⟩)
                · have c14 := mt (yi_c_le (a := p) (b := 57) (by omega) (by omega)).mpr c14
                  refine yy_fin.steps (n := 6) (s' := (4, [some (.ref k), some (.int ((Int32.ofInt n) + (Int32.ofInt 1))), some (.int ((Int32.ofInt i) + (Int32.ofInt 1))), some (.int (Int32.ofInt z)), some (.int (Int32.ofInt 1))], [], h)) rfl ?_
                  rw [yi_add n 1]
                  rw [yi_add i 1]
                  have e1 : y_one p z = 1 := by unfold y_one; exact if_pos (by omega)
                  rw [e1, show n + (1 + y_ct z (l.drop (i + 1).toNat)) = n + 1 + y_ct z (l.drop (i + 1).toNat) by omega]
                  exact yl_thL ot hB d (i + 1) (n + 1) z _ _ (by omega) (by omega) (by omega) (by omega) (Or.inr ⟨by omega, c, by rw [show i + 1 - 1 = i by omega]; exact ec, ez.symm⟩)
theorem yl_things (ot : yT h k v l) (hB : h.1.1 < yy_B) : yy_fin X 277 (0, zz_in [.ref k] (zz_nl 277), [], h) (fun r h' => r = some (.int (Int32.ofInt (y_ct (-1) l))) ∧ h' = h) := by
  refine yy_fin.steps (n := 4) (s' := (4, [some (.ref k), some (.int (Int32.ofInt 0)), some (.int (Int32.ofInt 0)), none, none], [], h)) rfl ?_
  have h9 := yl_thL ot hB l.length 0 0 (-1) none none (X := X) (by omega) (by omega) (by omega) (by omega) (Or.inl ⟨rfl, rfl⟩)
  rw [show (0 : Int).toNat = 0 from rfl, List.drop_zero, Int.zero_add] at h9
  exact h9
end YW6
