/-! BELLS: the class reads a COND -/
theorem tc_at_ne (g : aa_G) (b : Nat → Int32) (n p : Nat) {k j : Nat} (h : ¬ (k = 454 ∧ (j = 1 ∨ j = 2))) : tc_at g b n p k j = g k j := by
  unfold tc_at
  rw [aa_w_ne _ _ (by omega), aa_w_ne _ _ (by omega)]
theorem cb_pred {N : Nat} (h : 1 ≤ N) (h2 : N ≤ 1000) : Int32.ofNat N - 1 = Int32.ofNat (N - 1) := by
  have e1 : (1 : Int32).toInt = 1 := rfl
  have e2 : (Int32.ofNat N).toInt = (N : Int) := zz_ofN (by omega)
  refine aa_eqN ?_ (by omega)
  rw [aa_sub32 (by rw [e1, e2]; omega) (by rw [e1, e2]; omega), e1, e2]
  omega
/-- a THING more -/
def cb_one (g : aa_G) (N T d : Nat) (s k v : Int32) : aa_G := zz_w (zz_w (zz_w (zz_w (zz_w g 43 T s) 44 T k) 45 T v) 36 1 (Int32.ofNat (T + 1))) 42 (N - 1) (Int32.ofNat (d + 1))
theorem cb_one_at {g : aa_G} {b : Nat → Int32} {n p N T d : Nat} {s k v : Int32} : cb_one (tc_at g b n p) N T d s k v = tc_at (cb_one g N T d s k v) b n p := by
  unfold cb_one
  rw [tc_comm _ _ _ _ (by decide), tc_comm _ _ _ _ (by decide), tc_comm _ _ _ _ (by decide), tc_comm _ _ _ _ (by decide), tc_comm _ _ _ _ (by decide)]
theorem cb_add {g : aa_G} {N T d : Nat} {s k v : Int32} (h0 : g 36 0 = Int32.ofNat N) (hN : 1 ≤ N ∧ N ≤ 8) (h1 : g 36 1 = Int32.ofNat T) (hT : T < 40) (hd : g 42 (N - 1) = Int32.ofNat d) : zz_fin none 48 (0, zz_in [.ref 36, .int s, .int k, .int v] (zz_nl 48), [], aa_H g) (fun r h => r = none ∧ h = aa_H (cb_one g N T d s k v)) := by
  refine zz_fin.steps (n := 3) (s' := (6, [some (.ref 36), some (.int s), some (.int k), some (.int v)], [.int 40, .int (g 36 1)], aa_H g)) rfl ?_
  rw [h1]
  refine zz_fin.ic rfl (fun c1 => ?_) (fun c1 => ?_)
  · have c1 : (40 : Int32).toInt ≤ (Int32.ofNat T).toInt := aa_le32.mp (of_decide_eq_true c1)
    rw [zz_ofN (by omega), show (40 : Int32).toInt = 40 from rfl] at c1
    omega
  · refine zz_fin.steps (n := 4) (s' := (16, [some (.ref 36), some (.int s), some (.int k), some (.int v)], [.int 8, .int 1, .int (g 36 0)], aa_H g)) rfl ?_
    rw [h0]
    have hin : (1 : Int32) ≤ Int32.ofNat N ∧ Int32.ofNat N ≤ 8 := ⟨aa_le32.mpr (by rw [zz_ofN (by omega), show (1 : Int32).toInt = 1 from rfl]; omega), aa_le32.mpr (by rw [zz_ofN (by omega), show (8 : Int32).toInt = 8 from rfl]; omega)⟩
    refine zz_fin.call rfl rfl (Nat.le_of_ble_eq_true rfl) (zz_within1 (.inl rfl) hin) ?_
    rintro v h ⟨rfl, rfl⟩
    refine zz_fin.if rfl (fun cz => ?_) (fun cz => absurd rfl cz)
    refine zz_fin.steps (n := 5) (s' := (32, [some (.ref 36), some (.int s), some (.int k), some (.int v)], [.int s, .int (g 36 1), .ref 43], aa_H g)) rfl ?_
    rw [show (g) 36 1 = Int32.ofNat T from h1]
    refine zz_fin.ias (n := 40) rfl rfl (zz_inbN (by omega) (by omega)) ?_
    rw [zz_toN (by omega)]
    refine zz_fin.steps (n := 5) (s' := (42, [some (.ref 36), some (.int s), some (.int k), some (.int v)], [.int k, .int ((zz_w g 43 T s) 36 1), .ref 44], aa_H (zz_w g 43 T s))) rfl ?_
    rw [show (zz_w g 43 T s) 36 1 = Int32.ofNat T from (aa_w_ne _ _ (by omega)).trans h1]
    refine zz_fin.ias (n := 40) rfl rfl (zz_inbN (by omega) (by omega)) ?_
    rw [zz_toN (by omega)]
    refine zz_fin.steps (n := 5) (s' := (52, [some (.ref 36), some (.int s), some (.int k), some (.int v)], [.int v, .int ((zz_w (zz_w g 43 T s) 44 T k) 36 1), .ref 45], aa_H (zz_w (zz_w g 43 T s) 44 T k))) rfl ?_
    rw [show (zz_w (zz_w g 43 T s) 44 T k) 36 1 = Int32.ofNat T from (aa_w_ne _ _ (by omega)).trans ((aa_w_ne _ _ (by omega)).trans h1)]
    refine zz_fin.ias (n := 40) rfl rfl (zz_inbN (by omega) (by omega)) ?_
    rw [zz_toN (by omega)]
    refine zz_fin.steps (n := 5) (s' := (60, [some (.ref 36), some (.int s), some (.int k), some (.int v)], [.int (((zz_w (zz_w (zz_w g 43 T s) 44 T k) 45 T v) 36 1) + 1), .ref 36], aa_H (zz_w (zz_w (zz_w g 43 T s) 44 T k) 45 T v))) rfl ?_
    rw [show (zz_w (zz_w (zz_w g 43 T s) 44 T k) 45 T v) 36 1 = Int32.ofNat T from (aa_w_ne _ _ (by omega)).trans ((aa_w_ne _ _ (by omega)).trans ((aa_w_ne _ _ (by omega)).trans h1)), aa_succ]
    refine zz_fin.steps (n := 7) (s' := (73, [some (.ref 36), some (.int s), some (.int k), some (.int v)], [.int (((zz_w (zz_w (zz_w (zz_w g 43 T s) 44 T k) 45 T v) 36 1 (Int32.ofNat (T + 1))) 36 0) - 1), .ref 42], aa_H (zz_w (zz_w (zz_w (zz_w g 43 T s) 44 T k) 45 T v) 36 1 (Int32.ofNat (T + 1))))) rfl ?_
    rw [show (zz_w (zz_w (zz_w (zz_w g 43 T s) 44 T k) 45 T v) 36 1 (Int32.ofNat (T + 1))) 36 0 = Int32.ofNat N from (aa_w_ne _ _ (by omega)).trans ((aa_w_ne _ _ (by omega)).trans ((aa_w_ne _ _ (by omega)).trans ((aa_w_ne _ _ (by omega)).trans h0))), cb_pred hN.1 (by omega)]
    refine zz_fin.steps (n := 1) (s' := (74, [some (.ref 36), some (.int s), some (.int k), some (.int v)], [.int (Int32.ofNat (N - 1)), .ref 42, .int (Int32.ofNat (N - 1)), .ref 42], aa_H (zz_w (zz_w (zz_w (zz_w g 43 T s) 44 T k) 45 T v) 36 1 (Int32.ofNat (T + 1))))) rfl ?_
    refine zz_fin.ial (n := 8) rfl rfl (zz_inbN (by omega) (by omega)) ?_
    rw [zz_toN (by omega)]
    refine zz_fin.steps (n := 2) (s' := (77, [some (.ref 36), some (.int s), some (.int k), some (.int v)], [.int (((zz_w (zz_w (zz_w (zz_w g 43 T s) 44 T k) 45 T v) 36 1 (Int32.ofNat (T + 1))) 42 (N - 1)) + 1), .int (Int32.ofNat (N - 1)), .ref 42], aa_H (zz_w (zz_w (zz_w (zz_w g 43 T s) 44 T k) 45 T v) 36 1 (Int32.ofNat (T + 1))))) rfl ?_
    rw [show (zz_w (zz_w (zz_w (zz_w g 43 T s) 44 T k) 45 T v) 36 1 (Int32.ofNat (T + 1))) 42 (N - 1) = Int32.ofNat d from (aa_w_ne _ _ (by omega)).trans ((aa_w_ne _ _ (by omega)).trans ((aa_w_ne _ _ (by omega)).trans ((aa_w_ne _ _ (by omega)).trans hd))), aa_succ]
    refine zz_fin.ias (n := 8) rfl rfl (zz_inbN (by omega) (by omega)) ?_
    rw [zz_toN (by omega)]
    exact zz_fin.at (n := 1) rfl ⟨rfl, rfl⟩
/-- the tape's number aside, the same -/
def cb_eq (g g' : aa_G) : Prop := ∀ k j, ¬ (k = 454 ∧ j = 3) → g' k j = g k j
def cb_tres (g : aa_G) (b : Nat → Int32) (n N T d : Nat) (s : Int32) (r : Nat ⊕ (Nat × (Int32 × Int32))) (v : Option Value) (h : zz_H) : Prop := (∃ f, r = .inl f ∧ v = some (.int 0) ∧ ∃ g', h = aa_H g' ∧ tc_bad g f g') ∨ (∃ q y z, r = .inr (q, (y, z)) ∧ q ≤ n ∧ v = some (.int 1) ∧ ∃ g1, h = aa_H (tc_at (cb_one g1 N T d s y z) b n q) ∧ cb_eq g g1)
theorem cb_tl {g : aa_G} {b : Nat → Int32} {n p N T d : Nat} {s : Int32} (h : tc_ok g b n) (hp : p ≤ n) (h0 : g 36 0 = Int32.ofNat N) (hN : 1 ≤ N ∧ N ≤ 8) (h1 : g 36 1 = Int32.ofNat T) (hT : T ≤ 40) (hd : g 42 (N - 1) = Int32.ofNat d) (hl : sp_dg (sp_hb b n p) = false) (hm : ¬ sp_nm (sp_hb b n p) = -1) : zz_fin none 47 (40, [some (.ref 454), some (.ref 36), some (.int s), some (.int (sp_hb b n p)), none], [.int 1], aa_H (tc_at g b n p)) (cb_tres g b n N T d s (fl_thing b n p T)) := by
  have k1 : tc_at g b n p 36 1 = Int32.ofNat T := (tc_at_ne _ _ _ _ (by omega)).trans h1
  refine zz_fin.steps (n := 4) (s' := (48, [some (.ref 454), some (.ref 36), some (.int s), some (.int (sp_hb b n p)), some (.int 1)], [.int 40, .int ((tc_at g b n p) 36 1)], aa_H (tc_at g b n p))) rfl ?_
  rw [k1]
  refine zz_fin.ic rfl (fun c1 => ?_) (fun c1 => ?_)
  · have c1 : (40 : Int32).toInt ≤ (Int32.ofNat T).toInt := aa_le32.mp (of_decide_eq_true c1)
    rw [zz_ofN (by omega), show (40 : Int32).toInt = 40 from rfl] at c1
    have e0 : fl_thing b n p T = .inl p := if_pos (.inr (by omega))
    refine zz_fin.steps (n := 1) (s' := (64, [some (.ref 454), some (.ref 36), some (.int s), some (.int (sp_hb b n p)), some (.int 1)], [.ref 454], aa_H (tc_at g b n p))) rfl ?_
    refine zz_fin.call rfl rfl (Nat.le_of_ble_eq_true rfl) (tc_fail) ?_
    rintro v h' ⟨rfl, g', rfl, hg2⟩
    exact zz_fin.at (n := 1) rfl (.inl ⟨p, e0, rfl, g', rfl, hg2⟩)
  · have c1 : T < 40 := Decidable.byContradiction fun z => c1 (decide_eq_true (aa_le32.mpr (by rw [zz_ofN (by omega), show (40 : Int32).toInt = 40 from rfl]; omega)))
    refine zz_fin.steps (n := 1) (s' := (53, [some (.ref 454), some (.ref 36), some (.int s), some (.int (sp_hb b n p)), some (.int 1)], [.int 1], aa_H (tc_at g b n p))) rfl ?_
    refine zz_fin.if rfl (fun cz => ?_) (fun cz => absurd rfl cz)
    refine zz_fin.steps (n := 1) (s' := (70, [some (.ref 454), some (.ref 36), some (.int s), some (.int (sp_hb b n p)), some (.int 1)], [.int 1], aa_H (tc_at g b n p))) rfl ?_
    refine zz_fin.if rfl (fun cz => zc_no1 cz) (fun cz => ?_)
    refine zz_fin.steps (n := 1) (s' := (74, [some (.ref 454), some (.ref 36), some (.int s), some (.int (sp_hb b n p)), some (.int 1)], [.ref 454], aa_H (tc_at g b n p))) rfl ?_
    have hpn : p < n := pd_in fun e => hm (by rw [e]; decide)
    refine zz_fin.call rfl rfl (Nat.le_of_ble_eq_true rfl) (tc_step h hpn) ?_
    rintro v h ⟨rfl, rfl⟩
    refine zz_fin.steps (n := 4) (s' := (81, [some (.ref 454), some (.ref 36), some (.int s), some (.int (sp_hb b n p)), some (.int 1)], [.int 0, .int (sp_hb b n p), .int s, .ref 36], aa_H (tc_at g b n (p + 1)))) rfl ?_
    refine zz_fin.call rfl rfl (Nat.le_of_ble_eq_true rfl) (cb_add (N := N) (T := T) (d := d) ((tc_at_ne _ _ _ _ (by omega)).trans h0) hN ((tc_at_ne _ _ _ _ (by omega)).trans h1) c1 ((tc_at_ne _ _ _ _ (by omega)).trans hd)) ?_
    rintro v h' ⟨rfl, rfl⟩
    exact zz_fin.at (n := 2) rfl (.inr ⟨p + 1, _, _, (if_neg (fun z => z.elim (fun z => hm z.2) (fun z => by omega))).trans (if_neg (by rw [hl]; decide)), hpn, rfl, g, congrArg aa_H cb_one_at, fun k j _ => rfl⟩)
theorem cb_tn {g : aa_G} {b : Nat → Int32} {n p N T d : Nat} {s : Int32} (h : tc_ok g b n) (hp : p ≤ n) (h0 : g 36 0 = Int32.ofNat N) (hN : 1 ≤ N ∧ N ≤ 8) (h1 : g 36 1 = Int32.ofNat T) (hT : T ≤ 40) (hd : g 42 (N - 1) = Int32.ofNat d) (hm : sp_nm (sp_hb b n p) = -1) : zz_fin none 47 (40, [some (.ref 454), some (.ref 36), some (.int s), some (.int (sp_hb b n p)), none], [.int 0], aa_H (tc_at g b n p)) (cb_tres g b n N T d s (fl_thing b n p T)) := by
  have k1 : tc_at g b n p 36 1 = Int32.ofNat T := (tc_at_ne _ _ _ _ (by omega)).trans h1
  refine zz_fin.steps (n := 4) (s' := (48, [some (.ref 454), some (.ref 36), some (.int s), some (.int (sp_hb b n p)), some (.int 0)], [.int 40, .int ((tc_at g b n p) 36 1)], aa_H (tc_at g b n p))) rfl ?_
  rw [k1]
  refine zz_fin.ic rfl (fun c1 => ?_) (fun c1 => ?_)
  · have c1 : (40 : Int32).toInt ≤ (Int32.ofNat T).toInt := aa_le32.mp (of_decide_eq_true c1)
    rw [zz_ofN (by omega), show (40 : Int32).toInt = 40 from rfl] at c1
    have e0 : fl_thing b n p T = .inl p := if_pos (.inr (by omega))
    refine zz_fin.steps (n := 1) (s' := (64, [some (.ref 454), some (.ref 36), some (.int s), some (.int (sp_hb b n p)), some (.int 0)], [.ref 454], aa_H (tc_at g b n p))) rfl ?_
    refine zz_fin.call rfl rfl (Nat.le_of_ble_eq_true rfl) (tc_fail) ?_
    rintro v h' ⟨rfl, g', rfl, hg2⟩
    exact zz_fin.at (n := 1) rfl (.inl ⟨p, e0, rfl, g', rfl, hg2⟩)
  · have c1 : T < 40 := Decidable.byContradiction fun z => c1 (decide_eq_true (aa_le32.mpr (by rw [zz_ofN (by omega), show (40 : Int32).toInt = 40 from rfl]; omega)))
    refine zz_fin.steps (n := 1) (s' := (53, [some (.ref 454), some (.ref 36), some (.int s), some (.int (sp_hb b n p)), some (.int 0)], [.int 0], aa_H (tc_at g b n p))) rfl ?_
    refine zz_fin.if rfl (fun cz => absurd cz (by decide)) (fun cz => ?_)
    refine zz_fin.steps (n := 1) (s' := (57, [some (.ref 454), some (.ref 36), some (.int s), some (.int (sp_hb b n p)), some (.int 0)], [.ref 454], aa_H (tc_at g b n p))) rfl ?_
    refine zz_fin.call rfl rfl (Nat.le_of_ble_eq_true rfl) (tc_dig) ?_
    rintro v h ⟨⟨rfl, hg⟩ | ⟨rfl, hg⟩, rfl⟩
    · refine zz_fin.if rfl (fun cz => ?_) (fun cz => absurd rfl cz)
      refine zz_fin.steps (n := 1) (s' := (70, [some (.ref 454), some (.ref 36), some (.int s), some (.int (sp_hb b n p)), some (.int 0)], [.int 0], aa_H (tc_at g b n p))) rfl ?_
      refine zz_fin.if rfl (fun cz => ?_) (fun cz => zc_no0 cz)
      refine zz_fin.steps (n := 4) (s' := (91, [some (.ref 454), some (.ref 36), some (.int s), some (.int (sp_hb b n p)), some (.int 0)], [.int 99999, .int 0, .int 0, .ref 454], aa_H (tc_at g b n p))) rfl ?_
      refine zz_fin.call rfl rfl (Nat.le_of_ble_eq_true rfl) (tc_num (neg := false) h hp 0 99999) ?_
      rintro v h' (⟨f, hf, rfl, g', rfl, hg2⟩ | ⟨q, z, hq, rfl, rfl⟩)
      · refine zz_fin.if rfl (fun cz => absurd cz (by decide)) (fun cz => ?_)
        exact zz_fin.at (n := 2) rfl (.inl ⟨f, (if_neg (fun z => z.elim (fun z => by rw [hg] at z; cases z.1) (fun z => by omega))).trans ((if_pos hg).trans (by simp only [hf])), rfl, g', rfl, hg2⟩)
      · refine zz_fin.if rfl (fun cz => ?_) (fun cz => absurd rfl cz)
        have hqn := sp_num_n hq hp
        refine zz_fin.steps (n := 5) (s' := (106, [some (.ref 454), some (.ref 36), some (.int s), some (.int (sp_hb b n p)), some (.int 0)], [.int z, .int 0, .int s, .ref 36], aa_H (tc_at (zz_w g 454 3 z) b n q))) rfl ?_
        refine zz_fin.call rfl rfl (Nat.le_of_ble_eq_true rfl) (cb_add (N := N) (T := T) (d := d) ((tc_at_ne _ _ _ _ (by omega)).trans ((aa_w_ne _ _ (by omega)).trans h0)) hN ((tc_at_ne _ _ _ _ (by omega)).trans ((aa_w_ne _ _ (by omega)).trans h1)) c1 ((tc_at_ne _ _ _ _ (by omega)).trans ((aa_w_ne _ _ (by omega)).trans hd))) ?_
        rintro v h' ⟨rfl, rfl⟩
        exact zz_fin.at (n := 2) rfl (.inr ⟨q, 0, z, (if_neg (fun z => z.elim (fun z => by rw [hg] at z; cases z.1) (fun z => by omega))).trans ((if_pos hg).trans (by simp only [hq])), hqn.1, rfl, zz_w g 454 3 z, congrArg aa_H cb_one_at, fun k j e => aa_w_ne _ _ e⟩)
    · have e0 : fl_thing b n p T = .inl p := if_pos (.inl ⟨hg, hm⟩)
      refine zz_fin.if rfl (fun cz => absurd cz (by decide)) (fun cz => ?_)
      refine zz_fin.steps (n := 1) (s' := (64, [some (.ref 454), some (.ref 36), some (.int s), some (.int (sp_hb b n p)), some (.int 0)], [.ref 454], aa_H (tc_at g b n p))) rfl ?_
      refine zz_fin.call rfl rfl (Nat.le_of_ble_eq_true rfl) (tc_fail) ?_
      rintro v h' ⟨rfl, g', rfl, hg2⟩
      exact zz_fin.at (n := 1) rfl (.inl ⟨p, e0, rfl, g', rfl, hg2⟩)
theorem cb_thing {g : aa_G} {b : Nat → Int32} {n p N T d : Nat} {s : Int32} (h : tc_ok g b n) (hp : p ≤ n) (h0 : g 36 0 = Int32.ofNat N) (hN : 1 ≤ N ∧ N ≤ 8) (h1 : g 36 1 = Int32.ofNat T) (hT : T ≤ 40) (hd : g 42 (N - 1) = Int32.ofNat d) : zz_fin none 47 (0, zz_in [.ref 454, .ref 36, .int s] (zz_nl 47), [], aa_H (tc_at g b n p)) (cb_tres g b n N T d s (fl_thing b n p T)) := by
  refine zz_fin.steps (n := 5) (s' := (8, [some (.ref 454), some (.ref 36), some (.int s), some (.int (sp_hb b n p)), none], [.int 119, .int (sp_hb b n p)], aa_H (tc_at g b n p))) rfl ?_
  refine zz_fin.ic rfl (fun c1 => ?_) (fun c1 => ?_)
  · have c1 : sp_hb b n p = 119 := of_decide_eq_true c1
    refine zz_fin.steps (n := 2) (s' := (40, [some (.ref 454), some (.ref 36), some (.int s), some (.int (sp_hb b n p)), none], [.int 1], aa_H (tc_at g b n p))) rfl ?_
    exact cb_tl h hp h0 hN h1 hT hd (by rw [c1]; decide) (by rw [c1]; decide)
  · have c1 : ¬ sp_hb b n p = 119 := fun z => c1 (decide_eq_true z)
    refine zz_fin.steps (n := 2) (s' := (14, [some (.ref 454), some (.ref 36), some (.int s), some (.int (sp_hb b n p)), none], [.int 121, .int (sp_hb b n p)], aa_H (tc_at g b n p))) rfl ?_
    refine zz_fin.ic rfl (fun c2 => ?_) (fun c2 => ?_)
    · have c2 : sp_hb b n p = 121 := of_decide_eq_true c2
      refine zz_fin.steps (n := 2) (s' := (40, [some (.ref 454), some (.ref 36), some (.int s), some (.int (sp_hb b n p)), none], [.int 1], aa_H (tc_at g b n p))) rfl ?_
      exact cb_tl h hp h0 hN h1 hT hd (by rw [c2]; decide) (by rw [c2]; decide)
    · have c2 : ¬ sp_hb b n p = 121 := fun z => c2 (decide_eq_true z)
      refine zz_fin.steps (n := 2) (s' := (20, [some (.ref 454), some (.ref 36), some (.int s), some (.int (sp_hb b n p)), none], [.int 108, .int (sp_hb b n p)], aa_H (tc_at g b n p))) rfl ?_
      refine zz_fin.ic rfl (fun c3 => ?_) (fun c3 => ?_)
      · have c3 : sp_hb b n p = 108 := of_decide_eq_true c3
        refine zz_fin.steps (n := 2) (s' := (40, [some (.ref 454), some (.ref 36), some (.int s), some (.int (sp_hb b n p)), none], [.int 1], aa_H (tc_at g b n p))) rfl ?_
        exact cb_tl h hp h0 hN h1 hT hd (by rw [c3]; decide) (by rw [c3]; decide)
      · have c3 : ¬ sp_hb b n p = 108 := fun z => c3 (decide_eq_true z)
        refine zz_fin.steps (n := 2) (s' := (26, [some (.ref 454), some (.ref 36), some (.int s), some (.int (sp_hb b n p)), none], [.int 116, .int (sp_hb b n p)], aa_H (tc_at g b n p))) rfl ?_
        refine zz_fin.ic rfl (fun c4 => ?_) (fun c4 => ?_)
        · have c4 : sp_hb b n p = 116 := of_decide_eq_true c4
          refine zz_fin.steps (n := 2) (s' := (40, [some (.ref 454), some (.ref 36), some (.int s), some (.int (sp_hb b n p)), none], [.int 1], aa_H (tc_at g b n p))) rfl ?_
          exact cb_tl h hp h0 hN h1 hT hd (by rw [c4]; decide) (by rw [c4]; decide)
        · have c4 : ¬ sp_hb b n p = 116 := fun z => c4 (decide_eq_true z)
          refine zz_fin.steps (n := 2) (s' := (32, [some (.ref 454), some (.ref 36), some (.int s), some (.int (sp_hb b n p)), none], [.int 122, .int (sp_hb b n p)], aa_H (tc_at g b n p))) rfl ?_
          refine zz_fin.ic rfl (fun c5 => ?_) (fun c5 => ?_)
          · have c5 : ¬ sp_hb b n p = 122 := of_decide_eq_true c5
            refine zz_fin.steps (n := 1) (s' := (40, [some (.ref 454), some (.ref 36), some (.int s), some (.int (sp_hb b n p)), none], [.int 0], aa_H (tc_at g b n p))) rfl ?_
            exact cb_tn h hp h0 hN h1 hT hd (by unfold sp_nm; rw [if_neg c1, if_neg c2, if_neg c3, if_neg c4, if_neg c5])
          · have c5 : sp_hb b n p = 122 := Decidable.byContradiction fun z => c5 (decide_eq_true z)
            refine zz_fin.steps (n := 2) (s' := (40, [some (.ref 454), some (.ref 36), some (.int s), some (.int (sp_hb b n p)), none], [.int 1], aa_H (tc_at g b n p))) rfl ?_
            exact cb_tl h hp h0 hN h1 hT hd (by rw [c5]; decide) (by rw [c5]; decide)
theorem cb_ist (c : Int32) {g : aa_G} : zz_fin none 49 (0, zz_in [.int c] (zz_nl 49), [], aa_H g) (fun v h => ((v = some (.int 1) ∧ pd_ot c = true) ∨ (v = some (.int 0) ∧ pd_ot c = false)) ∧ h = aa_H g) := by
  refine zz_fin.steps (n := 2) (s' := (3, [some (.int c)], [.int 60, .int c], aa_H g)) rfl ?_
  refine zz_fin.ic rfl (fun c1 => ?_) (fun c1 => ?_)
  · have c1 : c = 60 := of_decide_eq_true c1
    refine zz_fin.steps (n := 2) (s' := (23, [some (.int c)], [.int 1], aa_H g)) rfl ?_
    exact zz_fin.at (n := 1) rfl ⟨.inl ⟨rfl, by rw [c1]; decide⟩, rfl⟩
  · have c1 : ¬ c = 60 := fun z => c1 (decide_eq_true z)
    refine zz_fin.steps (n := 2) (s' := (9, [some (.int c)], [.int 62, .int c], aa_H g)) rfl ?_
    refine zz_fin.ic rfl (fun c2 => ?_) (fun c2 => ?_)
    · have c2 : c = 62 := of_decide_eq_true c2
      refine zz_fin.steps (n := 2) (s' := (23, [some (.int c)], [.int 1], aa_H g)) rfl ?_
      exact zz_fin.at (n := 1) rfl ⟨.inl ⟨rfl, by rw [c2]; decide⟩, rfl⟩
    · have c2 : ¬ c = 62 := fun z => c2 (decide_eq_true z)
      refine zz_fin.steps (n := 2) (s' := (15, [some (.int c)], [.int 61, .int c], aa_H g)) rfl ?_
      refine zz_fin.ic rfl (fun c3 => ?_) (fun c3 => ?_)
      · have c3 : ¬ c = 61 := of_decide_eq_true c3
        refine zz_fin.steps (n := 1) (s' := (23, [some (.int c)], [.int 0], aa_H g)) rfl ?_
        exact zz_fin.at (n := 1) rfl ⟨.inr ⟨rfl, by unfold pd_ot; rw [decide_eq_false c1, decide_eq_false c2, decide_eq_false c3, Bool.or_false, Bool.or_false]⟩, rfl⟩
      · have c3 : c = 61 := Decidable.byContradiction fun z => c3 (decide_eq_true z)
        refine zz_fin.steps (n := 2) (s' := (23, [some (.int c)], [.int 1], aa_H g)) rfl ?_
        exact zz_fin.at (n := 1) rfl ⟨.inl ⟨rfl, by rw [c3]; decide⟩, rfl⟩
theorem cb_isj (c : Int32) {g : aa_G} : zz_fin none 50 (0, zz_in [.int c] (zz_nl 50), [], aa_H g) (fun v h => ((v = some (.int 1) ∧ fl_j c = true) ∨ (v = some (.int 0) ∧ fl_j c = false)) ∧ h = aa_H g) := by
  refine zz_fin.steps (n := 2) (s' := (3, [some (.int c)], [.int 38, .int c], aa_H g)) rfl ?_
  refine zz_fin.ic rfl (fun c1 => ?_) (fun c1 => ?_)
  · have c1 : c = 38 := of_decide_eq_true c1
    refine zz_fin.steps (n := 2) (s' := (17, [some (.int c)], [.int 1], aa_H g)) rfl ?_
    exact zz_fin.at (n := 1) rfl ⟨.inl ⟨rfl, by rw [c1]; decide⟩, rfl⟩
  · have c1 : ¬ c = 38 := fun z => c1 (decide_eq_true z)
    refine zz_fin.steps (n := 2) (s' := (9, [some (.int c)], [.int 124, .int c], aa_H g)) rfl ?_
    refine zz_fin.ic rfl (fun c2 => ?_) (fun c2 => ?_)
    · have c2 : ¬ c = 124 := of_decide_eq_true c2
      refine zz_fin.steps (n := 1) (s' := (17, [some (.int c)], [.int 0], aa_H g)) rfl ?_
      exact zz_fin.at (n := 1) rfl ⟨.inr ⟨rfl, by unfold fl_j pd_o3 pd_o4; rw [decide_eq_false c1, decide_eq_false c2, Bool.or_false]⟩, rfl⟩
    · have c2 : c = 124 := Decidable.byContradiction fun z => c2 (decide_eq_true z)
      refine zz_fin.steps (n := 2) (s' := (17, [some (.int c)], [.int 1], aa_H g)) rfl ?_
      exact zz_fin.at (n := 1) rfl ⟨.inl ⟨rfl, by rw [c2]; decide⟩, rfl⟩
theorem cb_isf (c : Int32) {g : aa_G} : zz_fin none 52 (0, zz_in [.int c] (zz_nl 52), [], aa_H g) (fun v h => ((v = some (.int 1) ∧ pd_o1 c = true) ∨ (v = some (.int 0) ∧ pd_o1 c = false)) ∧ h = aa_H g) := by
  refine zz_fin.steps (n := 2) (s' := (3, [some (.int c)], [.int 42, .int c], aa_H g)) rfl ?_
  refine zz_fin.ic rfl (fun c1 => ?_) (fun c1 => ?_)
  · have c1 : c = 42 := of_decide_eq_true c1
    refine zz_fin.steps (n := 2) (s' := (17, [some (.int c)], [.int 1], aa_H g)) rfl ?_
    exact zz_fin.at (n := 1) rfl ⟨.inl ⟨rfl, by rw [c1]; decide⟩, rfl⟩
  · have c1 : ¬ c = 42 := fun z => c1 (decide_eq_true z)
    refine zz_fin.steps (n := 2) (s' := (9, [some (.int c)], [.int 47, .int c], aa_H g)) rfl ?_
    refine zz_fin.ic rfl (fun c2 => ?_) (fun c2 => ?_)
    · have c2 : ¬ c = 47 := of_decide_eq_true c2
      refine zz_fin.steps (n := 1) (s' := (17, [some (.int c)], [.int 0], aa_H g)) rfl ?_
      exact zz_fin.at (n := 1) rfl ⟨.inr ⟨rfl, by unfold pd_o1; rw [decide_eq_false c1, decide_eq_false c2, Bool.or_false]⟩, rfl⟩
    · have c2 : c = 47 := Decidable.byContradiction fun z => c2 (decide_eq_true z)
      refine zz_fin.steps (n := 2) (s' := (17, [some (.int c)], [.int 1], aa_H g)) rfl ?_
      exact zz_fin.at (n := 1) rfl ⟨.inl ⟨rfl, by rw [c2]; decide⟩, rfl⟩
theorem cb_ish (c : Int32) {g : aa_G} : zz_fin none 51 (0, zz_in [.int c] (zz_nl 51), [], aa_H g) (fun v h => ((v = some (.int 1) ∧ fl_h c = true) ∨ (v = some (.int 0) ∧ fl_h c = false)) ∧ h = aa_H g) := by
  refine zz_fin.steps (n := 2) (s' := (3, [some (.int c)], [.int 43, .int c], aa_H g)) rfl ?_
  refine zz_fin.ic rfl (fun c1 => ?_) (fun c1 => ?_)
  · have c1 : c = 43 := of_decide_eq_true c1
    refine zz_fin.steps (n := 2) (s' := (24, [some (.int c)], [.int 1], aa_H g)) rfl ?_
    exact zz_fin.at (n := 1) rfl ⟨.inl ⟨rfl, by rw [c1]; decide⟩, rfl⟩
  · have c1 : ¬ c = 43 := fun z => c1 (decide_eq_true z)
    refine zz_fin.steps (n := 2) (s' := (9, [some (.int c)], [.int 45, .int c], aa_H g)) rfl ?_
    refine zz_fin.ic rfl (fun c2 => ?_) (fun c2 => ?_)
    · have c2 : c = 45 := of_decide_eq_true c2
      refine zz_fin.steps (n := 2) (s' := (24, [some (.int c)], [.int 1], aa_H g)) rfl ?_
      exact zz_fin.at (n := 1) rfl ⟨.inl ⟨rfl, by rw [c2]; decide⟩, rfl⟩
    · have c2 : ¬ c = 45 := fun z => c2 (decide_eq_true z)
      refine zz_fin.steps (n := 1) (s' := (13, [some (.int c)], [.int c], aa_H g)) rfl ?_
      refine zz_fin.call rfl rfl (Nat.le_of_ble_eq_true rfl) (cb_isf _) ?_
      rintro v h ⟨⟨rfl, hf⟩ | ⟨rfl, hf⟩, rfl⟩
      · refine zz_fin.if rfl (fun cz => zc_no1 cz) (fun cz => ?_)
        refine zz_fin.steps (n := 2) (s' := (24, [some (.int c)], [.int 1], aa_H g)) rfl ?_
        exact zz_fin.at (n := 1) rfl ⟨.inl ⟨rfl, by unfold fl_h; rw [hf]; rfl⟩, rfl⟩
      · refine zz_fin.if rfl (fun cz => ?_) (fun cz => zc_no0 cz)
        refine zz_fin.steps (n := 1) (s' := (24, [some (.int c)], [.int 0], aa_H g)) rfl ?_
        exact zz_fin.at (n := 1) rfl ⟨.inr ⟨rfl, by unfold fl_h pd_o2; rw [hf, decide_eq_false c1, decide_eq_false c2, Bool.or_false, Bool.or_false]⟩, rfl⟩
theorem fl_a1 {go : Nat → Nat → Int32 → Bool → List fl_T → fl_R} {b : Nat → Int32} {n q T : Nat} {l : List fl_T} (h1 : pd_ot (sp_hb b n q) = false) (h2 : fl_j (sp_hb b n q) = false) (h3 : fl_h (sp_hb b n q) = false) : fl_aft go b n q T true l = .inr (q, l) := by
  unfold fl_aft
  rw [h1, h2, h3, if_pos ⟨rfl, rfl, rfl⟩, if_pos rfl]
theorem fl_a2 {go : Nat → Nat → Int32 → Bool → List fl_T → fl_R} {b : Nat → Int32} {n q T : Nat} {l : List fl_T} (h1 : pd_ot (sp_hb b n q) = false) (h2 : fl_j (sp_hb b n q) = false) (h3 : fl_h (sp_hb b n q) = false) : fl_aft go b n q T false l = .inl q := by
  unfold fl_aft
  rw [h1, h2, h3, if_pos ⟨rfl, rfl, rfl⟩, if_neg (by decide)]
theorem fl_a3 {go : Nat → Nat → Int32 → Bool → List fl_T → fl_R} {b : Nat → Int32} {n q T : Nat} {l : List fl_T} (h1 : pd_ot (sp_hb b n q) = true) : fl_aft go b n q T true l = .inl q := by
  unfold fl_aft
  rw [h1, if_neg (fun e => by cases e.1), if_pos (.inl ⟨rfl, rfl⟩)]
theorem fl_a4 {go : Nat → Nat → Int32 → Bool → List fl_T → fl_R} {b : Nat → Int32} {n q T : Nat} {l : List fl_T} (h1 : pd_ot (sp_hb b n q) = true) (h2 : fl_j (sp_hb b n q) = false) : fl_aft go b n q T false l = go (q + 1) T (sp_hb b n q) true l := by
  unfold fl_aft
  rw [h1, h2, if_neg (fun e => by cases e.1), if_neg (fun e => e.elim (fun e => by cases e.2) (fun e => by cases e.1))]
  rfl
theorem fl_a5 {go : Nat → Nat → Int32 → Bool → List fl_T → fl_R} {b : Nat → Int32} {n q T : Nat} {l : List fl_T} (h2 : fl_j (sp_hb b n q) = true) : fl_aft go b n q T false l = .inl q := by
  unfold fl_aft
  rw [h2, if_neg (fun e => by cases e.2.1), if_pos (.inr ⟨rfl, rfl⟩)]
theorem fl_a6 {go : Nat → Nat → Int32 → Bool → List fl_T → fl_R} {b : Nat → Int32} {n q T : Nat} {l : List fl_T} (h1 : pd_ot (sp_hb b n q) = false) (h2 : fl_j (sp_hb b n q) = true) : fl_aft go b n q T true l = go (q + 1) T (sp_hb b n q) false l := by
  unfold fl_aft
  rw [h1, h2, if_neg (fun e => by cases e.2.1), if_neg (fun e => e.elim (fun e => by cases e.1) (fun e => by cases e.2))]
  rfl
theorem fl_a7 {go : Nat → Nat → Int32 → Bool → List fl_T → fl_R} {b : Nat → Int32} {n q T : Nat} {td : Bool} {l : List fl_T} (h1 : pd_ot (sp_hb b n q) = false) (h2 : fl_j (sp_hb b n q) = false) (h3 : fl_h (sp_hb b n q) = true) : fl_aft go b n q T td l = go (q + 1) T (sp_hb b n q) td l := by
  unfold fl_aft
  rw [h1, h2, h3, if_neg (fun e => by cases e.2.2), if_neg (fun e => e.elim (fun e => by cases e.1) (fun e => by cases e.1))]
  cases td <;> rfl
/-- of the draft's THINGS alone has anything changed -/
def cb_fr (g g' : aa_G) (N T : Nat) : Prop := ∀ k j, ¬ ((k = 43 ∨ k = 44 ∨ k = 45) ∧ T ≤ j) → ¬ (k = 36 ∧ j = 1) → ¬ (k = 42 ∧ j = N - 1) → ¬ (k = 454 ∧ j = 3) → g' k j = g k j
def cb_st (g g' : aa_G) (N T : Nat) (ts : List fl_T) : Prop := cb_fr g g' N T ∧ g' 36 1 = Int32.ofNat (T + ts.length) ∧ g' 42 (N - 1) = Int32.ofNat ts.length ∧ ∀ i t, ts[i]? = some t → g' 43 (T + i) = t.1 ∧ g' 44 (T + i) = t.2.1 ∧ g' 45 (T + i) = t.2.2
def cb_bad (g : aa_G) (f : Nat) (g' : aa_G) : Prop := (∀ k j, ¬ (36 ≤ k ∧ k ≤ 45) → ¬ (k = 454 ∧ 1 ≤ j ∧ j ≤ 4) → g' k j = g k j) ∧ g' 454 4 = Int32.ofNat f
def cb_res (g : aa_G) (b : Nat → Int32) (n N T : Nat) (r : fl_R) (v : Option Value) (h : zz_H) : Prop := (∃ f, r = .inl f ∧ v = some (.int 0) ∧ ∃ g', h = aa_H g' ∧ cb_bad g f g') ∨ (∃ q ts, r = .inr (q, ts) ∧ q ≤ n ∧ v = some (.int 1) ∧ ∃ g', h = aa_H (tc_at g' b n q) ∧ cb_st g g' N T ts)
theorem cb_fr.ok {g g' : aa_G} {b : Nat → Int32} {n N T : Nat} (hf : cb_fr g g' N T) (h : tc_ok g b n) : tc_ok g' b n := ⟨(hf 454 0 (by omega) (by omega) (by omega) (by omega)).trans h.1, h.2.1, fun j hj => (hf 455 j (by omega) (by omega) (by omega) (by omega)).trans (h.2.2 j hj)⟩
theorem cb_fr.bad {g g1 g2 : aa_G} {N T f : Nat} (hf : cb_fr g g1 N T) (h : tc_bad g1 f g2) : cb_bad g f g2 := ⟨fun k j a e => (h.1 k j e).trans (hf k j (by omega) (by omega) (by omega) (by omega)), h.2⟩
theorem cb_st.push {g g1 g2 : aa_G} {N T : Nat} {ts : List fl_T} (s k v : Int32) (h : cb_st g g1 N T ts) (he : cb_eq g1 g2) : cb_st g (cb_one g2 N (T + ts.length) ts.length s k v) N T (ts ++ [(s, (k, v))]) := by
  have hl : (ts ++ [(s, (k, v))]).length = ts.length + 1 := List.length_append
  unfold cb_one
  refine ⟨fun a j e1 e2 e3 e4 => ?_, ?_, ?_, fun i t hi => ?_⟩
  · rw [aa_w_ne _ _ (by omega), aa_w_ne _ _ (by omega), aa_w_ne _ _ (by omega), aa_w_ne _ _ (by omega), aa_w_ne _ _ (by omega), he a j e4]
    exact h.1 a j e1 e2 e3 e4
  · rw [aa_w_ne _ _ (by omega), aa_w_at, hl, Nat.add_assoc]
  · rw [aa_w_at, hl]
  · by_cases hlt : i < ts.length
    · rw [List.getElem?_append_left hlt] at hi
      obtain ⟨k1, k2, k3⟩ := h.2.2.2 i t hi
      refine ⟨?_, ?_, ?_⟩
      · rw [aa_w_ne _ _ (by omega), aa_w_ne _ _ (by omega), aa_w_ne _ _ (by omega), aa_w_ne _ _ (by omega), aa_w_ne _ _ (by omega), he _ _ (by omega)]
        exact k1
      · rw [aa_w_ne _ _ (by omega), aa_w_ne _ _ (by omega), aa_w_ne _ _ (by omega), aa_w_ne _ _ (by omega), aa_w_ne _ _ (by omega), he _ _ (by omega)]
        exact k2
      · rw [aa_w_ne _ _ (by omega), aa_w_ne _ _ (by omega), aa_w_ne _ _ (by omega), aa_w_ne _ _ (by omega), aa_w_ne _ _ (by omega), he _ _ (by omega)]
        exact k3
    · have hi2 : i < ts.length + 1 := by
        rw [← hl]
        exact (List.getElem?_eq_some_iff.mp hi).1
      have hi3 : i = ts.length := by omega
      subst hi3
      rw [List.getElem?_append_right (Nat.le_refl _), Nat.sub_self] at hi
      cases hi
      refine ⟨?_, ?_, ?_⟩
      · rw [aa_w_ne _ _ (by omega), aa_w_ne _ _ (by omega), aa_w_ne _ _ (by omega), aa_w_ne _ _ (by omega), aa_w_at]
      · rw [aa_w_ne _ _ (by omega), aa_w_ne _ _ (by omega), aa_w_ne _ _ (by omega), aa_w_at]
      · rw [aa_w_ne _ _ (by omega), aa_w_ne _ _ (by omega), aa_w_at]
theorem fl_thing_lt {b : Nat → Int32} {n p T q : Nat} {y z : Int32} (h : fl_thing b n p T = .inr (q, (y, z))) (hp : p ≤ n) : p < q := by
  unfold fl_thing at h
  split at h
  · cases h
  · rename_i h0
    split at h
    · split at h
      · cases h
      · rename_i q2 z2 hq
        have := sp_num_n hq hp
        cases h
        omega
    · cases h
      omega
theorem fl_thing_T {b : Nat → Int32} {n p T q : Nat} {y z : Int32} (h : fl_thing b n p T = .inr (q, (y, z))) : T ≠ 40 := fun e => by
  rw [show fl_thing b n p T = .inl p from if_pos (.inr e)] at h
  cases h
theorem cb_cond {g : aa_G} {b : Nat → Int32} {n N T : Nat} (h : tc_ok g b n) (h0 : g 36 0 = Int32.ofNat N) (hN : 1 ≤ N ∧ N ≤ 8) : ∀ (k p i : Nat) (ts : List fl_T) (s : Int32) (td : Bool) (x y : Option Value) (g1 : aa_G), n < k + p → i < p → p ≤ n → T + ts.length ≤ 40 → cb_st g g1 N T ts → zz_fin none 46 (7, [some (.ref 454), some (.ref 36), some (.int (if td = true then 1 else 0)), some (.int s), some (.int (Int32.ofNat i)), x, y], [], aa_H (tc_at g1 b n p)) (cb_res g b n N T (fl_cond b n k p (T + ts.length) s td ts)) := by
  have hn := h.2.1
  intro k
  induction k with
  | zero => intro p i ts s td x y g1 hk hi hp; omega
  | succ k ih =>
    intro p i ts s td x y g1 hk hi hp hT hs
    have h1 := hs.1.ok h
    have k0 : g1 36 0 = Int32.ofNat N := (hs.1 36 0 (by omega) (by omega) (by omega) (by omega)).trans h0
    cases td with
    | false =>
      refine zz_fin.steps (n := 2) (s' := (12, [some (.ref 454), some (.ref 36), some (.int 0), some (.int s), some (.int (Int32.ofNat i)), x, y], [.int 500, .int (Int32.ofNat i)], aa_H (tc_at g1 b n p))) rfl ?_
      refine zz_fin.ic rfl (fun c1 => ?_) (fun c1 => ?_)
      · have c1 : (500 : Int32).toInt ≤ (Int32.ofNat i).toInt := aa_le32.mp (of_decide_eq_true c1)
        rw [zz_ofN (by omega), show (500 : Int32).toInt = 500 from rfl] at c1
        omega
      · refine zz_fin.steps (n := 3) (s' := (18, [some (.ref 454), some (.ref 36), some (.int 0), some (.int s), some (.int (Int32.ofNat i)), x, y], [.int s, .ref 36, .ref 454], aa_H (tc_at g1 b n p))) rfl ?_
        refine zz_fin.call rfl rfl (Nat.le_of_ble_eq_true rfl) (cb_thing (N := N) (T := T + ts.length) (d := ts.length) h1 hp k0 hN hs.2.1 hT hs.2.2.1) ?_
        rintro v h' (⟨f, e, rfl, g', rfl, hb⟩ | ⟨q, kd, vl, e, hqn, rfl, g2, rfl, he⟩)
        · refine zz_fin.if rfl (fun cz => absurd cz (by decide)) (fun cz => ?_)
          exact zz_fin.at (n := 2) rfl (.inl ⟨f, by rw [fl_cond, e], rfl, g', rfl, hs.1.bad hb⟩)
        · refine zz_fin.if rfl (fun cz => ?_) (fun cz => absurd rfl cz)
          have hs2 := hs.push s kd vl he
          have hpq := fl_thing_lt e hp
          have hT4 := fl_thing_T e
          have hl : T + (ts ++ [(s, (kd, vl))]).length = T + ts.length + 1 := by
            have e1 : (ts ++ [(s, (kd, vl))]).length = ts.length + 1 := List.length_append
            omega
          rw [show fl_cond b n (k + 1) p (T + ts.length) s false ts = fl_aft (fl_cond b n k) b n q (T + ts.length + 1) false (ts ++ [(s, (kd, vl))]) by rw [fl_cond, e]]
          generalize cb_one g2 N (T + ts.length) ts.length s kd vl = g3 at hs2 ⊢
          refine zz_fin.steps (n := 4) (s' := (32, [some (.ref 454), some (.ref 36), some (.int 0), some (.int (sp_hb b n q)), some (.int (Int32.ofNat i)), x, y], [.int (sp_hb b n q)], aa_H (tc_at g3 b n q))) rfl ?_
          refine zz_fin.call rfl rfl (Nat.le_of_ble_eq_true rfl) (cb_ist _) ?_
          rintro v h ⟨⟨rfl, ho⟩ | ⟨rfl, ho⟩, rfl⟩
          · refine zz_fin.steps (n := 2) (s' := (38, [some (.ref 454), some (.ref 36), some (.int 0), some (.int (sp_hb b n q)), some (.int (Int32.ofNat i)), some (.int 1), y], [.int (sp_hb b n q)], aa_H (tc_at g3 b n q))) rfl ?_
            refine zz_fin.call rfl rfl (Nat.le_of_ble_eq_true rfl) (cb_isj _) ?_
            rintro v h ⟨⟨rfl, hj⟩ | ⟨rfl, hj⟩, rfl⟩
            · exact absurd hj (by rw [fl_att _ ho]; decide)
            · refine zz_fin.steps (n := 2) (s' := (45, [some (.ref 454), some (.ref 36), some (.int 0), some (.int (sp_hb b n q)), some (.int (Int32.ofNat i)), some (.int 1), some (.int 0)], [.int 1], aa_H (tc_at g3 b n q))) rfl ?_
              refine zz_fin.if rfl (fun cz => ?_) (fun cz => absurd rfl cz)
              refine zz_fin.steps (n := 1) (s' := (79, [some (.ref 454), some (.ref 36), some (.int 0), some (.int (sp_hb b n q)), some (.int (Int32.ofNat i)), some (.int 1), some (.int 0)], [.int 1], aa_H (tc_at g3 b n q))) rfl ?_
              refine zz_fin.if rfl (fun cz => zc_no1 cz) (fun cz => ?_)
              refine zz_fin.steps (n := 1) (s' := (83, [some (.ref 454), some (.ref 36), some (.int 0), some (.int (sp_hb b n q)), some (.int (Int32.ofNat i)), some (.int 1), some (.int 0)], [.int 0], aa_H (tc_at g3 b n q))) rfl ?_
              refine zz_fin.if rfl (fun cz => absurd cz (by decide)) (fun cz => ?_)
              refine zz_fin.steps (n := 1) (s' := (88, [some (.ref 454), some (.ref 36), some (.int 0), some (.int (sp_hb b n q)), some (.int (Int32.ofNat i)), some (.int 1), some (.int 0)], [.int 0], aa_H (tc_at g3 b n q))) rfl ?_
              refine zz_fin.if rfl (fun cz => ?_) (fun cz => zc_no0 cz)
              refine zz_fin.steps (n := 1) (s' := (102, [some (.ref 454), some (.ref 36), some (.int 0), some (.int (sp_hb b n q)), some (.int (Int32.ofNat i)), some (.int 1), some (.int 0)], [.int 1], aa_H (tc_at g3 b n q))) rfl ?_
              refine zz_fin.if rfl (fun cz => ?_) (fun cz => absurd rfl cz)
              refine zz_fin.steps (n := 4) (s' := (121, [some (.ref 454), some (.ref 36), some (.int 1), some (.int (sp_hb b n q)), some (.int (Int32.ofNat i)), some (.int 1), some (.int 0)], [.ref 454], aa_H (tc_at g3 b n q))) rfl ?_
              have hq : q < n := pd_in fun e => by rw [e] at ho; exact absurd ho (by decide)
              refine zz_fin.call rfl rfl (Nat.le_of_ble_eq_true rfl) (tc_step (hs2.1.ok h) hq) ?_
              rintro v h' ⟨rfl, rfl⟩
              rw [fl_a4 ho hj, ← hl]
              refine zz_fin.steps (n := 2) (s' := (7, [some (.ref 454), some (.ref 36), some (.int 1), some (.int (sp_hb b n q)), some (.int ((Int32.ofNat i) + 1)), some (.int 1), some (.int 0)], [], aa_H (tc_at g3 b n (q + 1)))) rfl ?_
              rw [aa_succ]
              exact ih (q + 1) (i + 1) _ _ true _ _ g3 (by omega) (by omega) hq (by omega) hs2
          · refine zz_fin.steps (n := 2) (s' := (38, [some (.ref 454), some (.ref 36), some (.int 0), some (.int (sp_hb b n q)), some (.int (Int32.ofNat i)), some (.int 0), y], [.int (sp_hb b n q)], aa_H (tc_at g3 b n q))) rfl ?_
            refine zz_fin.call rfl rfl (Nat.le_of_ble_eq_true rfl) (cb_isj _) ?_
            rintro v h ⟨⟨rfl, hj⟩ | ⟨rfl, hj⟩, rfl⟩
            · refine zz_fin.steps (n := 2) (s' := (45, [some (.ref 454), some (.ref 36), some (.int 0), some (.int (sp_hb b n q)), some (.int (Int32.ofNat i)), some (.int 0), some (.int 1)], [.int 0], aa_H (tc_at g3 b n q))) rfl ?_
              refine zz_fin.if rfl (fun cz => absurd cz (by decide)) (fun cz => ?_)
              refine zz_fin.steps (n := 1) (s' := (50, [some (.ref 454), some (.ref 36), some (.int 0), some (.int (sp_hb b n q)), some (.int (Int32.ofNat i)), some (.int 0), some (.int 1)], [.int 1], aa_H (tc_at g3 b n q))) rfl ?_
              refine zz_fin.if rfl (fun cz => ?_) (fun cz => absurd rfl cz)
              refine zz_fin.steps (n := 1) (s' := (79, [some (.ref 454), some (.ref 36), some (.int 0), some (.int (sp_hb b n q)), some (.int (Int32.ofNat i)), some (.int 0), some (.int 1)], [.int 0], aa_H (tc_at g3 b n q))) rfl ?_
              refine zz_fin.if rfl (fun cz => ?_) (fun cz => zc_no0 cz)
              refine zz_fin.steps (n := 1) (s' := (88, [some (.ref 454), some (.ref 36), some (.int 0), some (.int (sp_hb b n q)), some (.int (Int32.ofNat i)), some (.int 0), some (.int 1)], [.int 1], aa_H (tc_at g3 b n q))) rfl ?_
              refine zz_fin.if rfl (fun cz => zc_no1 cz) (fun cz => ?_)
              refine zz_fin.steps (n := 1) (s' := (92, [some (.ref 454), some (.ref 36), some (.int 0), some (.int (sp_hb b n q)), some (.int (Int32.ofNat i)), some (.int 0), some (.int 1)], [.int 0], aa_H (tc_at g3 b n q))) rfl ?_
              refine zz_fin.if rfl (fun cz => absurd cz (by decide)) (fun cz => ?_)
              refine zz_fin.steps (n := 1) (s' := (96, [some (.ref 454), some (.ref 36), some (.int 0), some (.int (sp_hb b n q)), some (.int (Int32.ofNat i)), some (.int 0), some (.int 1)], [.ref 454], aa_H (tc_at g3 b n q))) rfl ?_
              refine zz_fin.call rfl rfl (Nat.le_of_ble_eq_true rfl) (tc_fail) ?_
              rintro v h' ⟨rfl, g', rfl, hb⟩
              exact zz_fin.at (n := 1) rfl (.inl ⟨q, fl_a5 hj, rfl, g', rfl, hs2.1.bad hb⟩)
            · refine zz_fin.steps (n := 2) (s' := (45, [some (.ref 454), some (.ref 36), some (.int 0), some (.int (sp_hb b n q)), some (.int (Int32.ofNat i)), some (.int 0), some (.int 0)], [.int 0], aa_H (tc_at g3 b n q))) rfl ?_
              refine zz_fin.if rfl (fun cz => absurd cz (by decide)) (fun cz => ?_)
              refine zz_fin.steps (n := 1) (s' := (50, [some (.ref 454), some (.ref 36), some (.int 0), some (.int (sp_hb b n q)), some (.int (Int32.ofNat i)), some (.int 0), some (.int 0)], [.int 0], aa_H (tc_at g3 b n q))) rfl ?_
              refine zz_fin.if rfl (fun cz => absurd cz (by decide)) (fun cz => ?_)
              refine zz_fin.steps (n := 1) (s' := (54, [some (.ref 454), some (.ref 36), some (.int 0), some (.int (sp_hb b n q)), some (.int (Int32.ofNat i)), some (.int 0), some (.int 0)], [.int (sp_hb b n q)], aa_H (tc_at g3 b n q))) rfl ?_
              refine zz_fin.call rfl rfl (Nat.le_of_ble_eq_true rfl) (cb_ish _) ?_
              rintro v h ⟨⟨rfl, hh⟩ | ⟨rfl, hh⟩, rfl⟩
              · refine zz_fin.if rfl (fun cz => ?_) (fun cz => absurd rfl cz)
                refine zz_fin.steps (n := 1) (s' := (79, [some (.ref 454), some (.ref 36), some (.int 0), some (.int (sp_hb b n q)), some (.int (Int32.ofNat i)), some (.int 0), some (.int 0)], [.int 0], aa_H (tc_at g3 b n q))) rfl ?_
                refine zz_fin.if rfl (fun cz => ?_) (fun cz => zc_no0 cz)
                refine zz_fin.steps (n := 1) (s' := (88, [some (.ref 454), some (.ref 36), some (.int 0), some (.int (sp_hb b n q)), some (.int (Int32.ofNat i)), some (.int 0), some (.int 0)], [.int 0], aa_H (tc_at g3 b n q))) rfl ?_
                refine zz_fin.if rfl (fun cz => ?_) (fun cz => zc_no0 cz)
                refine zz_fin.steps (n := 1) (s' := (102, [some (.ref 454), some (.ref 36), some (.int 0), some (.int (sp_hb b n q)), some (.int (Int32.ofNat i)), some (.int 0), some (.int 0)], [.int 0], aa_H (tc_at g3 b n q))) rfl ?_
                refine zz_fin.if rfl (fun cz => absurd cz (by decide)) (fun cz => ?_)
                refine zz_fin.steps (n := 1) (s' := (106, [some (.ref 454), some (.ref 36), some (.int 0), some (.int (sp_hb b n q)), some (.int (Int32.ofNat i)), some (.int 0), some (.int 0)], [.int 0], aa_H (tc_at g3 b n q))) rfl ?_
                refine zz_fin.if rfl (fun cz => ?_) (fun cz => zc_no0 cz)
                refine zz_fin.steps (n := 3) (s' := (121, [some (.ref 454), some (.ref 36), some (.int 0), some (.int (sp_hb b n q)), some (.int (Int32.ofNat i)), some (.int 0), some (.int 0)], [.ref 454], aa_H (tc_at g3 b n q))) rfl ?_
                have hq : q < n := pd_in fun e => by rw [e] at hh; exact absurd hh (by decide)
                refine zz_fin.call rfl rfl (Nat.le_of_ble_eq_true rfl) (tc_step (hs2.1.ok h) hq) ?_
                rintro v h' ⟨rfl, rfl⟩
                rw [fl_a7 ho hj hh, ← hl]
                refine zz_fin.steps (n := 2) (s' := (7, [some (.ref 454), some (.ref 36), some (.int 0), some (.int (sp_hb b n q)), some (.int ((Int32.ofNat i) + 1)), some (.int 0), some (.int 0)], [], aa_H (tc_at g3 b n (q + 1)))) rfl ?_
                rw [aa_succ]
                exact ih (q + 1) (i + 1) _ _ false _ _ g3 (by omega) (by omega) hq (by omega) hs2
              · refine zz_fin.if rfl (fun cz => absurd cz (by decide)) (fun cz => ?_)
                refine zz_fin.steps (n := 1) (s' := (61, [some (.ref 454), some (.ref 36), some (.int 0), some (.int (sp_hb b n q)), some (.int (Int32.ofNat i)), some (.int 0), some (.int 0)], [.int 0], aa_H (tc_at g3 b n q))) rfl ?_
                refine zz_fin.if rfl (fun cz => absurd cz (by decide)) (fun cz => ?_)
                refine zz_fin.steps (n := 1) (s' := (65, [some (.ref 454), some (.ref 36), some (.int 0), some (.int (sp_hb b n q)), some (.int (Int32.ofNat i)), some (.int 0), some (.int 0)], [.ref 454], aa_H (tc_at g3 b n q))) rfl ?_
                refine zz_fin.call rfl rfl (Nat.le_of_ble_eq_true rfl) (tc_fail) ?_
                rintro v h' ⟨rfl, g', rfl, hb⟩
                refine zz_fin.if rfl (fun cz => ?_) (fun cz => zc_no0 cz)
                exact zz_fin.at (n := 2) rfl (.inl ⟨q, fl_a2 ho hj hh, rfl, g', rfl, hs2.1.bad hb⟩)
    | true =>
      refine zz_fin.steps (n := 2) (s' := (12, [some (.ref 454), some (.ref 36), some (.int 1), some (.int s), some (.int (Int32.ofNat i)), x, y], [.int 500, .int (Int32.ofNat i)], aa_H (tc_at g1 b n p))) rfl ?_
      refine zz_fin.ic rfl (fun c1 => ?_) (fun c1 => ?_)
      · have c1 : (500 : Int32).toInt ≤ (Int32.ofNat i).toInt := aa_le32.mp (of_decide_eq_true c1)
        rw [zz_ofN (by omega), show (500 : Int32).toInt = 500 from rfl] at c1
        omega
      · refine zz_fin.steps (n := 3) (s' := (18, [some (.ref 454), some (.ref 36), some (.int 1), some (.int s), some (.int (Int32.ofNat i)), x, y], [.int s, .ref 36, .ref 454], aa_H (tc_at g1 b n p))) rfl ?_
        refine zz_fin.call rfl rfl (Nat.le_of_ble_eq_true rfl) (cb_thing (N := N) (T := T + ts.length) (d := ts.length) h1 hp k0 hN hs.2.1 hT hs.2.2.1) ?_
        rintro v h' (⟨f, e, rfl, g', rfl, hb⟩ | ⟨q, kd, vl, e, hqn, rfl, g2, rfl, he⟩)
        · refine zz_fin.if rfl (fun cz => absurd cz (by decide)) (fun cz => ?_)
          exact zz_fin.at (n := 2) rfl (.inl ⟨f, by rw [fl_cond, e], rfl, g', rfl, hs.1.bad hb⟩)
        · refine zz_fin.if rfl (fun cz => ?_) (fun cz => absurd rfl cz)
          have hs2 := hs.push s kd vl he
          have hpq := fl_thing_lt e hp
          have hT4 := fl_thing_T e
          have hl : T + (ts ++ [(s, (kd, vl))]).length = T + ts.length + 1 := by
            have e1 : (ts ++ [(s, (kd, vl))]).length = ts.length + 1 := List.length_append
            omega
          rw [show fl_cond b n (k + 1) p (T + ts.length) s true ts = fl_aft (fl_cond b n k) b n q (T + ts.length + 1) true (ts ++ [(s, (kd, vl))]) by rw [fl_cond, e]]
          generalize cb_one g2 N (T + ts.length) ts.length s kd vl = g3 at hs2 ⊢
          refine zz_fin.steps (n := 4) (s' := (32, [some (.ref 454), some (.ref 36), some (.int 1), some (.int (sp_hb b n q)), some (.int (Int32.ofNat i)), x, y], [.int (sp_hb b n q)], aa_H (tc_at g3 b n q))) rfl ?_
          refine zz_fin.call rfl rfl (Nat.le_of_ble_eq_true rfl) (cb_ist _) ?_
          rintro v h ⟨⟨rfl, ho⟩ | ⟨rfl, ho⟩, rfl⟩
          · refine zz_fin.steps (n := 2) (s' := (38, [some (.ref 454), some (.ref 36), some (.int 1), some (.int (sp_hb b n q)), some (.int (Int32.ofNat i)), some (.int 1), y], [.int (sp_hb b n q)], aa_H (tc_at g3 b n q))) rfl ?_
            refine zz_fin.call rfl rfl (Nat.le_of_ble_eq_true rfl) (cb_isj _) ?_
            rintro v h ⟨⟨rfl, hj⟩ | ⟨rfl, hj⟩, rfl⟩
            · exact absurd hj (by rw [fl_att _ ho]; decide)
            · refine zz_fin.steps (n := 2) (s' := (45, [some (.ref 454), some (.ref 36), some (.int 1), some (.int (sp_hb b n q)), some (.int (Int32.ofNat i)), some (.int 1), some (.int 0)], [.int 1], aa_H (tc_at g3 b n q))) rfl ?_
              refine zz_fin.if rfl (fun cz => ?_) (fun cz => absurd rfl cz)
              refine zz_fin.steps (n := 1) (s' := (79, [some (.ref 454), some (.ref 36), some (.int 1), some (.int (sp_hb b n q)), some (.int (Int32.ofNat i)), some (.int 1), some (.int 0)], [.int 1], aa_H (tc_at g3 b n q))) rfl ?_
              refine zz_fin.if rfl (fun cz => zc_no1 cz) (fun cz => ?_)
              refine zz_fin.steps (n := 1) (s' := (83, [some (.ref 454), some (.ref 36), some (.int 1), some (.int (sp_hb b n q)), some (.int (Int32.ofNat i)), some (.int 1), some (.int 0)], [.int 1], aa_H (tc_at g3 b n q))) rfl ?_
              refine zz_fin.if rfl (fun cz => ?_) (fun cz => absurd rfl cz)
              refine zz_fin.steps (n := 1) (s' := (96, [some (.ref 454), some (.ref 36), some (.int 1), some (.int (sp_hb b n q)), some (.int (Int32.ofNat i)), some (.int 1), some (.int 0)], [.ref 454], aa_H (tc_at g3 b n q))) rfl ?_
              refine zz_fin.call rfl rfl (Nat.le_of_ble_eq_true rfl) (tc_fail) ?_
              rintro v h' ⟨rfl, g', rfl, hb⟩
              exact zz_fin.at (n := 1) rfl (.inl ⟨q, fl_a3 ho, rfl, g', rfl, hs2.1.bad hb⟩)
          · refine zz_fin.steps (n := 2) (s' := (38, [some (.ref 454), some (.ref 36), some (.int 1), some (.int (sp_hb b n q)), some (.int (Int32.ofNat i)), some (.int 0), y], [.int (sp_hb b n q)], aa_H (tc_at g3 b n q))) rfl ?_
            refine zz_fin.call rfl rfl (Nat.le_of_ble_eq_true rfl) (cb_isj _) ?_
            rintro v h ⟨⟨rfl, hj⟩ | ⟨rfl, hj⟩, rfl⟩
            · refine zz_fin.steps (n := 2) (s' := (45, [some (.ref 454), some (.ref 36), some (.int 1), some (.int (sp_hb b n q)), some (.int (Int32.ofNat i)), some (.int 0), some (.int 1)], [.int 0], aa_H (tc_at g3 b n q))) rfl ?_
              refine zz_fin.if rfl (fun cz => absurd cz (by decide)) (fun cz => ?_)
              refine zz_fin.steps (n := 1) (s' := (50, [some (.ref 454), some (.ref 36), some (.int 1), some (.int (sp_hb b n q)), some (.int (Int32.ofNat i)), some (.int 0), some (.int 1)], [.int 1], aa_H (tc_at g3 b n q))) rfl ?_
              refine zz_fin.if rfl (fun cz => ?_) (fun cz => absurd rfl cz)
              refine zz_fin.steps (n := 1) (s' := (79, [some (.ref 454), some (.ref 36), some (.int 1), some (.int (sp_hb b n q)), some (.int (Int32.ofNat i)), some (.int 0), some (.int 1)], [.int 0], aa_H (tc_at g3 b n q))) rfl ?_
              refine zz_fin.if rfl (fun cz => ?_) (fun cz => zc_no0 cz)
              refine zz_fin.steps (n := 1) (s' := (88, [some (.ref 454), some (.ref 36), some (.int 1), some (.int (sp_hb b n q)), some (.int (Int32.ofNat i)), some (.int 0), some (.int 1)], [.int 1], aa_H (tc_at g3 b n q))) rfl ?_
              refine zz_fin.if rfl (fun cz => zc_no1 cz) (fun cz => ?_)
              refine zz_fin.steps (n := 1) (s' := (92, [some (.ref 454), some (.ref 36), some (.int 1), some (.int (sp_hb b n q)), some (.int (Int32.ofNat i)), some (.int 0), some (.int 1)], [.int 1], aa_H (tc_at g3 b n q))) rfl ?_
              refine zz_fin.if rfl (fun cz => ?_) (fun cz => absurd rfl cz)
              refine zz_fin.steps (n := 1) (s' := (102, [some (.ref 454), some (.ref 36), some (.int 1), some (.int (sp_hb b n q)), some (.int (Int32.ofNat i)), some (.int 0), some (.int 1)], [.int 0], aa_H (tc_at g3 b n q))) rfl ?_
              refine zz_fin.if rfl (fun cz => absurd cz (by decide)) (fun cz => ?_)
              refine zz_fin.steps (n := 1) (s' := (106, [some (.ref 454), some (.ref 36), some (.int 1), some (.int (sp_hb b n q)), some (.int (Int32.ofNat i)), some (.int 0), some (.int 1)], [.int 1], aa_H (tc_at g3 b n q))) rfl ?_
              refine zz_fin.if rfl (fun cz => zc_no1 cz) (fun cz => ?_)
              refine zz_fin.steps (n := 1) (s' := (111, [some (.ref 454), some (.ref 36), some (.int 1), some (.int (sp_hb b n q)), some (.int (Int32.ofNat i)), some (.int 0), some (.int 1)], [.int 1], aa_H (tc_at g3 b n q))) rfl ?_
              refine zz_fin.if rfl (fun cz => ?_) (fun cz => absurd rfl cz)
              refine zz_fin.steps (n := 3) (s' := (121, [some (.ref 454), some (.ref 36), some (.int 0), some (.int (sp_hb b n q)), some (.int (Int32.ofNat i)), some (.int 0), some (.int 1)], [.ref 454], aa_H (tc_at g3 b n q))) rfl ?_
              have hq : q < n := pd_in fun e => by rw [e] at hj; exact absurd hj (by decide)
              refine zz_fin.call rfl rfl (Nat.le_of_ble_eq_true rfl) (tc_step (hs2.1.ok h) hq) ?_
              rintro v h' ⟨rfl, rfl⟩
              rw [fl_a6 ho hj, ← hl]
              refine zz_fin.steps (n := 2) (s' := (7, [some (.ref 454), some (.ref 36), some (.int 0), some (.int (sp_hb b n q)), some (.int ((Int32.ofNat i) + 1)), some (.int 0), some (.int 1)], [], aa_H (tc_at g3 b n (q + 1)))) rfl ?_
              rw [aa_succ]
              exact ih (q + 1) (i + 1) _ _ false _ _ g3 (by omega) (by omega) hq (by omega) hs2
            · refine zz_fin.steps (n := 2) (s' := (45, [some (.ref 454), some (.ref 36), some (.int 1), some (.int (sp_hb b n q)), some (.int (Int32.ofNat i)), some (.int 0), some (.int 0)], [.int 0], aa_H (tc_at g3 b n q))) rfl ?_
              refine zz_fin.if rfl (fun cz => absurd cz (by decide)) (fun cz => ?_)
              refine zz_fin.steps (n := 1) (s' := (50, [some (.ref 454), some (.ref 36), some (.int 1), some (.int (sp_hb b n q)), some (.int (Int32.ofNat i)), some (.int 0), some (.int 0)], [.int 0], aa_H (tc_at g3 b n q))) rfl ?_
              refine zz_fin.if rfl (fun cz => absurd cz (by decide)) (fun cz => ?_)
              refine zz_fin.steps (n := 1) (s' := (54, [some (.ref 454), some (.ref 36), some (.int 1), some (.int (sp_hb b n q)), some (.int (Int32.ofNat i)), some (.int 0), some (.int 0)], [.int (sp_hb b n q)], aa_H (tc_at g3 b n q))) rfl ?_
              refine zz_fin.call rfl rfl (Nat.le_of_ble_eq_true rfl) (cb_ish _) ?_
              rintro v h ⟨⟨rfl, hh⟩ | ⟨rfl, hh⟩, rfl⟩
              · refine zz_fin.if rfl (fun cz => ?_) (fun cz => absurd rfl cz)
                refine zz_fin.steps (n := 1) (s' := (79, [some (.ref 454), some (.ref 36), some (.int 1), some (.int (sp_hb b n q)), some (.int (Int32.ofNat i)), some (.int 0), some (.int 0)], [.int 0], aa_H (tc_at g3 b n q))) rfl ?_
                refine zz_fin.if rfl (fun cz => ?_) (fun cz => zc_no0 cz)
                refine zz_fin.steps (n := 1) (s' := (88, [some (.ref 454), some (.ref 36), some (.int 1), some (.int (sp_hb b n q)), some (.int (Int32.ofNat i)), some (.int 0), some (.int 0)], [.int 0], aa_H (tc_at g3 b n q))) rfl ?_
                refine zz_fin.if rfl (fun cz => ?_) (fun cz => zc_no0 cz)
                refine zz_fin.steps (n := 1) (s' := (102, [some (.ref 454), some (.ref 36), some (.int 1), some (.int (sp_hb b n q)), some (.int (Int32.ofNat i)), some (.int 0), some (.int 0)], [.int 0], aa_H (tc_at g3 b n q))) rfl ?_
                refine zz_fin.if rfl (fun cz => absurd cz (by decide)) (fun cz => ?_)
                refine zz_fin.steps (n := 1) (s' := (106, [some (.ref 454), some (.ref 36), some (.int 1), some (.int (sp_hb b n q)), some (.int (Int32.ofNat i)), some (.int 0), some (.int 0)], [.int 1], aa_H (tc_at g3 b n q))) rfl ?_
                refine zz_fin.if rfl (fun cz => zc_no1 cz) (fun cz => ?_)
                refine zz_fin.steps (n := 1) (s' := (111, [some (.ref 454), some (.ref 36), some (.int 1), some (.int (sp_hb b n q)), some (.int (Int32.ofNat i)), some (.int 0), some (.int 0)], [.int 0], aa_H (tc_at g3 b n q))) rfl ?_
                refine zz_fin.if rfl (fun cz => absurd cz (by decide)) (fun cz => ?_)
                refine zz_fin.steps (n := 4) (s' := (121, [some (.ref 454), some (.ref 36), some (.int 1), some (.int (sp_hb b n q)), some (.int (Int32.ofNat i)), some (.int 0), some (.int 0)], [.ref 454], aa_H (tc_at g3 b n q))) rfl ?_
                have hq : q < n := pd_in fun e => by rw [e] at hh; exact absurd hh (by decide)
                refine zz_fin.call rfl rfl (Nat.le_of_ble_eq_true rfl) (tc_step (hs2.1.ok h) hq) ?_
                rintro v h' ⟨rfl, rfl⟩
                rw [fl_a7 ho hj hh, ← hl]
                refine zz_fin.steps (n := 2) (s' := (7, [some (.ref 454), some (.ref 36), some (.int 1), some (.int (sp_hb b n q)), some (.int ((Int32.ofNat i) + 1)), some (.int 0), some (.int 0)], [], aa_H (tc_at g3 b n (q + 1)))) rfl ?_
                rw [aa_succ]
                exact ih (q + 1) (i + 1) _ _ true _ _ g3 (by omega) (by omega) hq (by omega) hs2
              · refine zz_fin.if rfl (fun cz => absurd cz (by decide)) (fun cz => ?_)
                refine zz_fin.steps (n := 1) (s' := (61, [some (.ref 454), some (.ref 36), some (.int 1), some (.int (sp_hb b n q)), some (.int (Int32.ofNat i)), some (.int 0), some (.int 0)], [.int 1], aa_H (tc_at g3 b n q))) rfl ?_
                refine zz_fin.if rfl (fun cz => ?_) (fun cz => absurd rfl cz)
                refine zz_fin.steps (n := 2) (s' := (76, [some (.ref 454), some (.ref 36), some (.int 1), some (.int (sp_hb b n q)), some (.int (Int32.ofNat i)), some (.int 0), some (.int 0)], [.int 1], aa_H (tc_at g3 b n q))) rfl ?_
                exact zz_fin.at (n := 1) rfl (.inr ⟨q, _, fl_a1 ho hj hh, hqn, rfl, g3, rfl, hs2⟩)
theorem cb_cond0 {g : aa_G} {b : Nat → Int32} {n N T p : Nat} (h : tc_ok g b n) (h0 : g 36 0 = Int32.ofNat N) (hN : 1 ≤ N ∧ N ≤ 8) (h1 : g 36 1 = Int32.ofNat T) (hT : T ≤ 40) (hd : g 42 (N - 1) = 0) (hp : 0 < p) (hpn : p ≤ n) : zz_fin none 46 (0, zz_in [.ref 454, .ref 36] (zz_nl 46), [], aa_H (tc_at g b n p)) (cb_res g b n N T (fl_cond b n (n + 1) p T 0 false [])) := by
  refine zz_fin.steps (n := 6) (s' := (7, [some (.ref 454), some (.ref 36), some (.int (if false = true then 1 else 0)), some (.int 0), some (.int (Int32.ofNat 0)), none, none], [], aa_H (tc_at g b n p))) rfl ?_
  exact cb_cond h h0 hN (n + 1) p 0 [] 0 false none none g (by omega) hp hpn hT ⟨fun _ _ _ _ _ _ => rfl, h1, hd, fun i t e => by cases e⟩
