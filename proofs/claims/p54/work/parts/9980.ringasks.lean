/-! CONTRACTS AT A CALL (RINGS ASKED; printed by wip/dc/kon.py, then by hand) -/
theorem ko_102 {g : aa_G} {a0 a1 a2 a3 : Int32} (hi : aa_inv g) (hφ : aa_Phi g)  : zz_fin none 102 (0, zz_in [.ref 1, .int a0, .int a1, .int a2, .int a3] (zz_nl 102), [], aa_H g) (aa_post aa_Phi aa_k101 [a0.toInt, a1.toInt, a2.toInt, a3.toInt] g) := by
  have hK : aa_met aa_Phi aa_k101 := aa_met_p3 aa_good_free _ (List.mem_of_getElem? (i := 38) rfl)
  refine hK [a0.toInt, a1.toInt, a2.toInt, a3.toInt] g [.ref 1, .int a0, .int a1, .int a2, .int a3] (aa_vb_new (aa_vb_new (aa_vb_new (aa_vb_new (⟨rfl, fun i q v hq => by cases hq⟩ : aa_vb [] []) (lo := -2147483648) (hi := 2147483647) (gr := 0) (ko_rng a0).1 (ko_rng a0).2 (fun z => absurd rfl z)) (lo := -2147483648) (hi := 2147483647) (gr := 0) (ko_rng a1).1 (ko_rng a1).2 (fun z => absurd rfl z)) (lo := -2147483648) (hi := 2147483647) (gr := 0) (ko_rng a2).1 (ko_rng a2).2 (fun z => absurd rfl z)) (lo := -2147483648) (hi := 2147483647) (gr := 0) (ko_rng a3).1 (ko_rng a3).2 (fun z => absurd rfl z)) (fun f hf => by cases hf) (fun q hq => by cases hq) ⟨⟨Nat.succ_ne_zero _, 1, rfl, rfl⟩, ⟨Nat.one_ne_zero, a0, rfl, aa_id_ev rfl⟩, ⟨Nat.one_ne_zero, a1, rfl, aa_id_ev rfl⟩, ⟨Nat.one_ne_zero, a2, rfl, aa_id_ev rfl⟩, ⟨Nat.one_ne_zero, a3, rfl, aa_id_ev rfl⟩, trivial⟩ hi hφ
theorem ko_211 {g : aa_G} {a0 a1 a2 a3 : Int32} (hi : aa_inv g) (hφ : aa_Phi g)  : zz_fin none 211 (0, zz_in [.ref 540, .int a0, .int a1, .int a2, .int a3] (zz_nl 211), [], aa_H g) (aa_post aa_Phi aa_m67 [a0.toInt, a1.toInt, a2.toInt, a3.toInt] g) := by
  have hK : aa_met aa_Phi aa_m67 := (aa_mL54 aa_hands_met _ List.mem_cons_self)
  refine hK [a0.toInt, a1.toInt, a2.toInt, a3.toInt] g [.ref 540, .int a0, .int a1, .int a2, .int a3] (aa_vb_new (aa_vb_new (aa_vb_new (aa_vb_new (⟨rfl, fun i q v hq => by cases hq⟩ : aa_vb [] []) (lo := -2147483648) (hi := 2147483647) (gr := 0) (ko_rng a0).1 (ko_rng a0).2 (fun z => absurd rfl z)) (lo := -2147483648) (hi := 2147483647) (gr := 0) (ko_rng a1).1 (ko_rng a1).2 (fun z => absurd rfl z)) (lo := -2147483648) (hi := 2147483647) (gr := 0) (ko_rng a2).1 (ko_rng a2).2 (fun z => absurd rfl z)) (lo := -2147483648) (hi := 2147483647) (gr := 0) (ko_rng a3).1 (ko_rng a3).2 (fun z => absurd rfl z)) (fun f hf => by cases hf) (fun q hq => by cases hq) ⟨⟨Nat.succ_ne_zero _, 540, rfl, rfl⟩, ⟨Nat.one_ne_zero, a0, rfl, aa_id_ev rfl⟩, ⟨Nat.one_ne_zero, a1, rfl, aa_id_ev rfl⟩, ⟨Nat.one_ne_zero, a2, rfl, aa_id_ev rfl⟩, ⟨Nat.one_ne_zero, a3, rfl, aa_id_ev rfl⟩, trivial⟩ hi hφ
theorem ak_102 {g g2 : aa_G} (W : wd_g g) (W2 : wd_g g2) (e : g2 541 = g 541) (B : br_B g g 2 0) (hb : g 4 0 = g 541 2) (a b c k : Int32) (hb' : 0 ≤ b.toInt ∧ b.toInt ≤ 35999) (hk : 0 ≤ k.toInt ∧ k.toInt ≤ 2) : (fn_102 g a b c k).1 = (fn_211 g2 a b c k).1 := by
  have e0 : g2 541 0 = g 541 0 := by rw [e]
  by_cases ha : 0 ≤ a.toInt ∧ a.toInt < (g 541 0).toInt
  · obtain ⟨t, ht, hat, ht2, c1, -⟩ := gt_s W ha
    have E1 : fn_102 g a b c k = fn_102_37 (fn_103 g 463 a b) c k := by
      unfold fn_102
      rw [c1]
      exact if_pos (ti_77n.mpr hb')
    have E2 : fn_211 g2 a b c k = fn_211_27 (fn_212 g2 a b) c k := by
      unfold fn_211
      rw [if_neg (fun z => (gd_191z W2).mp z ⟨by rw [e0]; exact ha, hb'⟩), if_pos (show fn_154 k 0 2 ≠ 0 from ti_154n.mpr hk)]
    rw [E1, E2, hat]
    obtain ⟨N, M, R, fx, fy⟩ := rp_of (Q := 463) (t := t) (d := b) (.inl rfl) W W2 e B hb ht2 hb'
    generalize fn_103 g 463 (Int32.ofNat t) b = X at R fx ⊢
    generalize fn_212 g2 (Int32.ofNat t) b = Y at R fy ⊢
    have hN := R.1
    have h0 := R.2.2.1.1
    have h1 := R.2.2.1.2.1
    have hv := R.2.2.1.2.2
    unfold fn_102_37 fn_211_27
    rw [h0, h1]
    by_cases z1 : c = -1
    · rw [if_neg (fun z => z z1), if_neg (fun z => z z1)]
    rw [if_pos z1, if_pos z1]
    have e14 : fn_14 c 0 (Int32.ofNat N - 1) = fn_154 c 0 (Int32.ofNat N - 1) := rfl
    rw [e14]
    by_cases z2 : fn_154 c 0 (Int32.ofNat N - 1) = 0
    · rw [if_neg (fun z => z z2), if_neg (fun z => z z2)]
    rw [if_pos z2, if_pos z2]
    have hc := ti_154n.mp z2
    have eN : (Int32.ofNat N - 1 : Int32).toInt = (N : Int) - 1 := by rw [yi_n, show Int32.ofInt (N : Int) - 1 = Int32.ofInt ((N : Int) - 1) from yi_sub N 1, yi_T (by omega)]
    rw [eN, i_0] at hc
    obtain ⟨n, hn, rfl, hn2⟩ := ti_nat (a := c) hc.1
    have hv := hv n (by omega)
    have k0 : k = 0 ∨ k = 1 ∨ k = 2 := by
      have : k.toInt = 0 ∨ k.toInt = 1 ∨ k.toInt = 2 := by omega
      exact this.elim (fun z => .inl (ti_eq.mpr z)) fun z => .inr (z.elim (fun z => .inl (ti_eq.mpr z)) fun z => .inr (ti_eq.mpr z))
    rw [zz_toN (by omega)]
    rcases k0 with rfl | rfl | rfl
    · rw [if_pos (by decide), if_neg (fun z => z rfl)]
      exact hv.1
    · rw [if_neg (by decide), if_pos (by decide), if_pos (by decide), if_neg (fun z => z rfl)]
      exact hv.2.1
    · rw [if_neg (by decide), if_neg (by decide), if_pos (by decide), if_pos (by decide), if_pos (by decide)]
      obtain ⟨s1, s2⟩ := st_c R (i := n) (by omega)
      exact s1.trans s2.symm
  · have E1 : (fn_102 g a b c k).1 = -1 := by
      unfold fn_102
      simp only [gt_n W ha]
    have E2 : (fn_211 g2 a b c k).1 = -1 := by
      unfold fn_211
      rw [if_pos ((gd_191z W2).mpr fun z => ha (by rw [← e0]; exact z.1))]
    rw [E1, E2]
theorem lq_102v {g : aa_G} {a0 a1 a2 a3 : Int32} (hb : 0 ≤ a1.toInt ∧ a1.toInt ≤ 35999) (hk : 0 ≤ a3.toInt ∧ a3.toInt ≤ 2) (hi : aa_inv g) (hφ : aa_Phi g) (hR : lr_R g) : lq_ok true 102 211 [.int a0, .int a1, .int a2, .int a3] g :=
  lq_ask (y := fn_211 (fn_102 g a0 a1 a2 a3).2 a0 a1 a2 a3) hi hφ hR (ko_fw (ko_102 hi hφ) fun _ _ _ r => dn_102 r) (fun i1 p1 => ko_fw (ko_211 i1 p1) fun _ _ _ r => dn_211 r) (by decide +kernel) (by decide +kernel) (by decide +kernel) (by decide +kernel) (by decide +kernel) (by decide +kernel) fun W W2 e => ak_102 W W2 e hR.1.1.2 hR.1.1.1.2.2.1 a0 a1 a2 a3 hb hk
/-! the rings' bells; sums over rings -/
theorem y_gat_k {q : Int} {T : Nat → Nat → Int} {c : Nat} {t d : Int} : ∀ (r : List (yBell × List fl_T)) (k : Int) (z : Int × Int), z ∈ y_gat q T c t d k r → k ≤ z.2 ∧ z.2 < k + r.length
  | [], k, z, h => nomatch h
  | e :: r, k, z, h => by
    have eg : y_gat q T c t d k (e :: r) = y_pc q T c t d k e ++ y_gat q T c t d (k + 1) r := rfl
    rw [eg] at h
    rw [List.length_cons]
    rcases List.mem_append.mp h with h | h
    · unfold y_pc at h
      rcases List.mem_append.mp h with h | h
      · split at h
        · rw [List.mem_singleton.mp h]
          dsimp only
          omega
        · exact nomatch h
      · split at h
        · rw [List.mem_singleton.mp h]
          dsimp only
          omega
        · exact nomatch h
    · have := y_gat_k r (k + 1) z h
      omega
theorem y_foldi_mem : ∀ (G L : List (Int × Int)) (z : Int × Int), z ∈ y_foldi L G → z ∈ L ∨ z ∈ G
  | [], L, z, h => Or.inl h
  | x :: G, L, z, h => by
    rcases y_foldi_mem G (y_ins x L) z h with h | h
    · rcases y_ins_mem h with h | h
      · exact Or.inr (h ▸ List.mem_cons_self ..)
      · exact Or.inl h
    · exact Or.inr (List.mem_cons_of_mem _ h)
theorem yRq_b {a : Nat → Int32} {t : Nat} {lst : List (yBell × List fl_T)} {d : Int} (B : yWb a) (ht : (t : Int) < (a 0).toInt) (Br : yBr a lst) : ∀ z ∈ yRq a t lst d, (0 ≤ z.1 ∧ z.1 < 86400) ∧ 0 ≤ z.2 ∧ z.2 < lst.length := fun z hz => by
  have hz := (y_foldi_mem _ _ z hz).resolve_left fun q => nomatch q
  refine ⟨y_gat_b (B.2.2 t ht).2 B.2.1.1 lst 0 (fun e he => ?_) z hz, ?_⟩
  · obtain ⟨i, hi, rfl⟩ := List.getElem_of_mem he
    have m := Br.2.2 i _ (List.getElem?_eq_getElem hi)
    have m5 := m.2.2.2.2.1
    exact ⟨m.2.2.2.1, m5.1, by omega⟩
  · have := y_gat_k _ _ z hz
    omega
theorem yRq_len {a : Nat → Int32} {t : Nat} {lst : List (yBell × List fl_T)} {d : Int} (Br : yBr a lst) : (yRq a t lst d).length ≤ 16 := by
  have h1 : (yRq a t lst d).length = (y_gat (a 1).toInt (av_t a t) (av_c a t) (t : Int) d 0 lst).length := (y_srt_all _ _ rfl).2.1
  have h2 := y_gat_len (a 1).toInt (av_t a t) (av_c a t) (t : Int) d lst 0
  have h3 := Br.2.1
  omega
/-- a bell's strokes -/
def y_stk (lst : List (yBell × List fl_T)) (k : Int) : Int := match lst[k.toNat]? with
  | some e => e.1.2.2.2.1
  | none => 0
theorem y_stk_at {a : Nat → Int32} {lst : List (yBell × List fl_T)} (Br : yBr a lst) {k : Int} (hk : 0 ≤ k ∧ k < lst.length) : (∃ e, lst[k.toNat]? = some e ∧ y_stk lst k = e.1.2.2.2.1) ∧ (1 ≤ y_stk lst k ∧ y_stk lst k ≤ 24) ∧ a (203 + 7 * k.toNat + 3) = Int32.ofInt (y_stk lst k) := by
  obtain ⟨e, ee⟩ : ∃ e, lst[k.toNat]? = some e := ⟨_, List.getElem?_eq_getElem (by omega)⟩
  have es : y_stk lst k = e.1.2.2.2.1 := by unfold y_stk; rw [ee]
  obtain ⟨⟨c0, cs, m1, m2⟩, m3, m4, m5, m6, m7⟩ := Br.2.2 _ e ee
  have m8 : a (203 + (7 * k.toNat + 3)) = Int32.ofInt e.1.2.2.2.1 := m1.1.2.2.2.1
  rw [es]
  exact ⟨⟨e, ee, rfl⟩, m7, by rw [← m8, Nat.add_assoc]⟩
/-- a ring's second, its bell -/
def y_s1 (L : List (Int × Int)) (i : Nat) : Int := (L[i]?.getD (0, 0)).1
def y_s2 (L : List (Int × Int)) (i : Nat) : Int := (L[i]?.getD (0, 0)).2
theorem y_s_at {L : List (Int × Int)} {i : Nat} {z : Int × Int} (e : L[i]? = some z) : y_s1 L i = z.1 ∧ y_s2 L i = z.2 := by
  unfold y_s1 y_s2
  rw [e]
  exact ⟨rfl, rfl⟩
/-- clashes: those of the rings that come less than so much behind the one ahead -/
def y_clh (L : List (Int × Int)) (gap : Int) (i : Nat) : Int := if i = 0 then 0 else if y_s1 L i - y_s1 L (i - 1) < gap then 1 else 0
/-- the next ring from a second on -/
def y_so (L : List (Int × Int)) (s d : Int) : Nat → Nat → Int
  | _, 0 => d
  | i, n + 1 => if s ≤ y_s1 L i then y_s1 L i - s else y_so L s d (i + 1) n
theorem sm_i_b {f : Nat → Int} {B : Int} (hf : ∀ i, 0 ≤ f i ∧ f i ≤ B) : ∀ (n i : Nat), 0 ≤ sm_i f i n ∧ sm_i f i n ≤ B * n
  | 0, i => ⟨Int.le_refl _, by show (0 : Int) ≤ B * (0 : Nat); simp⟩
  | n + 1, i => by
    have h1 := sm_i_b hf n (i + 1)
    have h2 := hf i
    show 0 ≤ f i + sm_i f (i + 1) n ∧ f i + sm_i f (i + 1) n ≤ B * ((n + 1 : Nat) : Int)
    rw [show B * ((n + 1 : Nat) : Int) = B * n + B by rw [Int.natCast_add, Int.mul_add]; simp]
    omega
section YRM
variable {g Y : aa_G} {t : Nat} {lst : List (yBell × List fl_T)} {day s gap : Int}
/-- what the laid rings say -/
theorem rl_at {L : List (Int × Int)} {i : Nat} (h : rl_w g Y L) (hi : i < L.length) : Y 546 i = Int32.ofInt (y_s1 L i) ∧ Y 547 i = Int32.ofInt (y_s2 L i) := by
  have e := List.getElem?_eq_getElem hi
  obtain ⟨a, b⟩ := h.1.2.1 i _ e
  obtain ⟨c, d⟩ := y_s_at e
  rw [c, d]
  exact ⟨a, b⟩
theorem y_s_b {L : List (Int × Int)} {m : Int} (hb : ∀ z ∈ L, (0 ≤ z.1 ∧ z.1 < 86400) ∧ 0 ≤ z.2 ∧ z.2 < m) {i : Nat} (hi : i < L.length) : (0 ≤ y_s1 L i ∧ y_s1 L i < 86400) ∧ 0 ≤ y_s2 L i ∧ y_s2 L i < m := by
  have e := List.getElem?_eq_getElem hi
  obtain ⟨c, d⟩ := y_s_at e
  rw [c, d]
  exact hb _ (List.getElem_mem hi)
theorem rl_217 {L : List (Int × Int)} {i : Nat} (Br : yBr (g 541) lst) (hb : ∀ z ∈ L, (0 ≤ z.1 ∧ z.1 < 86400) ∧ 0 ≤ z.2 ∧ z.2 < lst.length) (h : rl_w g Y L) (l16 : L.length ≤ 16) (hi : i < L.length) : fn_217 Y (Int32.ofNat i) = Int32.ofInt (y_stk lst (y_s2 L i)) := by
  have l8 := Br.2.1
  obtain ⟨-, b2⟩ := y_s_b hb hi
  obtain ⟨-, e2⟩ := rl_at h hi
  unfold fn_217
  rw [zz_toN (by omega), e2, h.2.2.2]
  obtain ⟨-, -, k3⟩ := y_stk_at Br b2
  obtain ⟨n, en⟩ : ∃ n : Nat, y_s2 L i = n := ⟨(y_s2 L i).toNat, by omega⟩
  rw [en] at k3 b2 ⊢
  rw [← yi_n n, show (203 : Int32) + 7 * Int32.ofNat n + 3 = Int32.ofNat (203 + 7 * n + 3) by rw [mb_7 (by omega), show (203 : Int32) + Int32.ofNat (7 * n) = Int32.ofNat (203 + 7 * n) from i_add 203 (7 * n), mb_add _ 3 (v := 3) rfl], zz_toN (by omega)]
  rw [Int.toNat_natCast] at k3
  exact k3
theorem m_211n (W : wd_g g) (ht : (t : Int) < (g 541 0).toInt) (Br : yBr (g 541) lst) (hd : 0 ≤ day ∧ day ≤ 35999) : (fn_211 g (Int32.ofInt (t : Int)) (Int32.ofInt day) (Int32.ofInt (-1)) (Int32.ofInt 0)).1 = Int32.ofInt ((yRq (g 541) t lst day).length : Int) := by
  unfold fn_211
  rw [← yi_n t, if_neg (y_191 W ht hd), if_pos (show ¬ fn_154 (Int32.ofInt 0) 0 2 = 0 from y_154 (a := 0) (lo := 0) (hi := 2) (by omega) (by omega) (by omega) (by omega))]
  have L := rl_lay W ht Br hd W rfl
  unfold fn_211_27
  rw [if_neg (fun z => z rfl)]
  exact L.1.1.trans (yi_n _)
theorem m_211i (W : wd_g g) (ht : (t : Int) < (g 541 0).toInt) (Br : yBr (g 541) lst) (hd : 0 ≤ day ∧ day ≤ 35999) {i : Nat} (hi : i ≤ (yRq (g 541) t lst day).length) {k : Int} (hk : 0 ≤ k ∧ k ≤ 2) : (fn_211 g (Int32.ofInt (t : Int)) (Int32.ofInt day) (Int32.ofInt (i : Int)) (Int32.ofInt k)).1 = Int32.ofInt (if i = (yRq (g 541) t lst day).length then -1 else if k = 0 then y_s1 (yRq (g 541) t lst day) i else if k = 1 then y_s2 (yRq (g 541) t lst day) i else y_stk lst (y_s2 (yRq (g 541) t lst day) i)) := by
  unfold fn_211
  rw [← yi_n t, if_neg (y_191 W ht hd), if_pos (show ¬ fn_154 (Int32.ofInt k) 0 2 = 0 from y_154 (a := k) (lo := 0) (hi := 2) (by omega) (by omega) (by omega) (by omega))]
  have L := rl_lay W ht Br hd W rfl
  have hb := yRq_b (d := day) (yWb_of W) ht Br
  have l16 := yRq_len (t := t) (d := day) Br
  generalize yRq (g 541) t lst day = R at L hi hb l16 ⊢
  generalize fn_212 g (Int32.ofNat t) (Int32.ofInt day) = Z at L ⊢
  unfold fn_211_27
  have n1 : Int32.ofInt (i : Int) ≠ -1 := fun z => by
    have := (yi_eq (a := (i : Int)) (b := -1) (by omega) (by omega)).mp (show Int32.ofInt (i : Int) = Int32.ofInt (-1) from z)
    omega
  have e26 : Z 540 26 - 1 = Int32.ofInt ((R.length : Int) - 1) := by rw [L.1.1, yi_n]; exact yi_sub R.length 1
  rw [if_pos n1, e26]
  by_cases c : i = R.length
  · rw [if_pos c, if_neg (fun z => z (ti_154z.mpr (by rw [yi_T (by omega), yi_T (by omega), i_0]; omega)))]
    rfl
  · have hi2 : i < R.length := by omega
    obtain ⟨e1, e2⟩ := rl_at L hi2
    rw [if_neg c, if_pos (ti_154n.mpr (by rw [yi_T (by omega), yi_T (by omega), i_0]; omega)), ← yi_n i, rl_217 Br hb L l16 hi2, zz_toN (by omega), e1, e2]
    have z0 : Int32.ofInt k = 0 ↔ k = 0 := yi_eq (b := 0) (by omega) (by omega)
    have z1 : Int32.ofInt k = 1 ↔ k = 1 := yi_eq (b := 1) (by omega) (by omega)
    by_cases c0 : k = 0
    · rw [if_neg (fun z => z (z0.mpr c0)), if_pos c0]
    · rw [if_pos (mt z0.mp c0), if_neg c0]
      by_cases c1 : k = 1
      · rw [if_neg (fun z => z (z1.mpr c1)), if_pos c1]
      · rw [if_pos (mt z1.mp c1), if_neg c1]
theorem rl_218 {L : List (Int × Int)} (Br : yBr (g 541) lst) (hb : ∀ z ∈ L, (0 ≤ z.1 ∧ z.1 < 86400) ∧ 0 ≤ z.2 ∧ z.2 < lst.length) (h : rl_w g Y L) (l16 : L.length ≤ 16) : ∀ (n i : Nat) (a : Int), i + n = L.length → fn_218_22 Y (Int32.ofInt a) (Int32.ofNat i) = (Int32.ofInt (a + sm_i (fun j => y_stk lst (y_s2 L j)) i n), Y)
  | 0, i, a, e => by
    unfold fn_218_22
    refine lp_r ?_
    dsimp only
    unfold fn_218_22b
    rw [h.1.1, if_pos (aa_le32.mpr (by rw [zz_ofN (by omega), zz_ofN (by omega)]; omega))]
    show _ = Sum.inr (Int32.ofInt (a + 0), Y)
    rw [Int.add_zero]
  | n + 1, i, a, e => by
    have ih := rl_218 Br hb h l16 n (i + 1) (a + y_stk lst (y_s2 L i)) (by omega)
    have e9 : a + sm_i (fun j => y_stk lst (y_s2 L j)) i (n + 1) = a + y_stk lst (y_s2 L i) + sm_i (fun j => y_stk lst (y_s2 L j)) (i + 1) n := by
      show a + (y_stk lst (y_s2 L i) + sm_i _ (i + 1) n) = _
      omega
    rw [e9, ← ih]
    unfold fn_218_22
    refine lp_l ?_
    dsimp only
    unfold fn_218_22b
    rw [h.1.1, if_neg (fun z => by have := aa_le32.mp z; rw [zz_ofN (by omega), zz_ofN (by omega)] at this; omega), rl_217 Br hb h l16 (by omega), yi_add, aa_succ]
theorem m_218 (W : wd_g g) (ht : (t : Int) < (g 541 0).toInt) (Br : yBr (g 541) lst) (hd : 0 ≤ day ∧ day ≤ 35999) : (fn_218 g (Int32.ofInt (t : Int)) (Int32.ofInt day)).1 = Int32.ofInt (sm_i (fun j => y_stk lst (y_s2 (yRq (g 541) t lst day) j)) 0 (yRq (g 541) t lst day).length) := by
  unfold fn_218
  rw [← yi_n t, if_pos (y_191 W ht hd)]
  have L := rl_lay W ht Br hd W rfl
  have hb := yRq_b (d := day) (yWb_of W) ht Br
  have l16 := yRq_len (t := t) (d := day) Br
  have h9 := rl_218 Br hb L l16 (yRq (g 541) t lst day).length 0 0 (by omega)
  unfold fn_218_17
  rw [Int.zero_add] at h9
  exact congrArg Prod.fst h9
theorem rl_220 {L : List (Int × Int)} {m : Int} (hg : 0 ≤ gap ∧ gap ≤ 86400) (hb : ∀ z ∈ L, (0 ≤ z.1 ∧ z.1 < 86400) ∧ 0 ≤ z.2 ∧ z.2 < m) (h : rl_w g Y L) (l16 : L.length ≤ 16) : ∀ (n i : Nat) (a : Int), 1 ≤ i → (i + n = L.length ∨ (n = 0 ∧ L.length ≤ i ∧ i ≤ 17)) → fn_220_33 Y (Int32.ofInt gap) (Int32.ofInt a) (Int32.ofNat i) = (Int32.ofInt (a + sm_i (y_clh L gap) i n), Y)
  | 0, i, a, h1, e => by
    unfold fn_220_33
    refine lp_r ?_
    dsimp only
    unfold fn_220_33b
    rw [h.1.1, if_pos (aa_le32.mpr (by rw [zz_ofN (by omega), zz_ofN (by omega)]; omega))]
    show _ = Sum.inr (Int32.ofInt (a + 0), Y)
    rw [Int.add_zero]
  | n + 1, i, a, h1, e => by
    have ih := rl_220 hg hb h l16 n (i + 1) (a + y_clh L gap i) (by omega) (by omega)
    have e9 : a + sm_i (y_clh L gap) i (n + 1) = a + y_clh L gap i + sm_i (y_clh L gap) (i + 1) n := by
      show a + (y_clh L gap i + sm_i _ (i + 1) n) = _
      omega
    obtain ⟨a1, -⟩ := rl_at h (show i < L.length by omega)
    obtain ⟨a2, -⟩ := rl_at h (show i - 1 < L.length by omega)
    have b1 := y_s_b hb (show i < L.length by omega)
    have b2 := y_s_b hb (show i - 1 < L.length by omega)
    rw [e9, ← ih]
    unfold fn_220_33
    refine lp_l ?_
    dsimp only
    unfold fn_220_33b fn_220_70
    rw [h.1.1, if_neg (fun z => by have := aa_le32.mp z; rw [zz_ofN (by omega), zz_ofN (by omega)] at this; omega), cb_pred (by omega) (by omega), zz_toN (by omega), zz_toN (by omega), a1, a2, yi_sub, aa_succ]
    have z : Int32.ofInt gap ≤ Int32.ofInt (y_s1 L i - y_s1 L (i - 1)) ↔ gap ≤ y_s1 L i - y_s1 L (i - 1) := yi_le (by omega) (by omega)
    unfold y_clh
    rw [if_neg (show i ≠ 0 by omega)]
    by_cases c : y_s1 L i - y_s1 L (i - 1) < gap
    · rw [if_neg (mt z.mp (by omega)), if_pos c, show Int32.ofInt a + 1 = Int32.ofInt (a + 1) from yi_add a 1]
    · rw [if_pos (z.mpr (by omega)), if_neg c, show Int32.ofInt a + 0 = Int32.ofInt (a + 0) from yi_add a 0]
theorem m_220 (W : wd_g g) (ht : (t : Int) < (g 541 0).toInt) (Br : yBr (g 541) lst) (hd : 0 ≤ day ∧ day ≤ 35999) (hg : 0 ≤ gap ∧ gap ≤ 86400) : (fn_220 g (Int32.ofInt (t : Int)) (Int32.ofInt day) (Int32.ofInt gap)).1 = Int32.ofInt (sm_i (y_clh (yRq (g 541) t lst day) gap) 0 (yRq (g 541) t lst day).length) := by
  unfold fn_220
  rw [← yi_n t, if_neg (y_191 W ht hd), if_pos (show ¬ fn_154 (Int32.ofInt gap) 0 86400 = 0 from y_154 (a := gap) (lo := 0) (hi := 86400) (by omega) (by omega) (by omega) hg)]
  have L := rl_lay W ht Br hd W rfl
  have hb := yRq_b (d := day) (yWb_of W) ht Br
  have l16 := yRq_len (t := t) (d := day) Br
  generalize yRq (g 541) t lst day = R at L hb l16 ⊢
  have h9 := rl_220 hg hb L l16 (R.length - 1) 1 0 (Nat.le_refl 1) (by omega)
  unfold fn_220_27
  refine (congrArg Prod.fst h9).trans ?_
  show Int32.ofInt _ = _
  rcases Nat.eq_zero_or_pos R.length with c | c
  · rw [c]
    rfl
  · obtain ⟨n, en⟩ : ∃ n, R.length = n + 1 := ⟨R.length - 1, by omega⟩
    rw [en, Nat.add_sub_cancel]
    show Int32.ofInt (0 + sm_i _ 1 n) = Int32.ofInt (y_clh R gap 0 + sm_i _ (0 + 1) n)
    have : y_clh R gap 0 = 0 := rfl
    rw [this]
theorem m_219 (W : wd_g g) (ht : (t : Int) < (g 541 0).toInt) (Br : yBr (g 541) lst) (hd : 0 ≤ day ∧ day ≤ 35999) (hs : 0 ≤ s ∧ s ≤ 86399) : (fn_219 g (Int32.ofInt (t : Int)) (Int32.ofInt day) (Int32.ofInt s)).1 = Int32.ofInt (y_so (yRq (g 541) t lst day) s (if day = 35999 then -2 else if (yRq (g 541) t lst (day + 1)).length = 0 then -2 else 86400 - s + y_s1 (yRq (g 541) t lst (day + 1)) 0) 0 (yRq (g 541) t lst day).length) := by
  unfold fn_219 fn_199
  rw [← yi_n t, if_neg (y_191 W ht hd), if_pos (show ¬ fn_154 (Int32.ofInt s) 0 86399 = 0 from y_154 (a := s) (lo := 0) (hi := 86399) (by omega) (by omega) (by omega) hs)]
  have L := rl_lay W ht Br hd W rfl
  have hb := yRq_b (d := day) (yWb_of W) ht Br
  have l16 := yRq_len (t := t) (d := day) Br
  generalize yRq (g 541) t lst day = R at L hb l16 ⊢
  generalize fn_212 g (Int32.ofNat t) (Int32.ofInt day) = Z at L ⊢
  have zd : Int32.ofInt day ≠ 35999 ↔ day ≠ 35999 := not_congr (yi_eq (b := 35999) (by omega) (by omega))
  have last : (if Int32.ofInt day ≠ 35999 then fn_219_80 (fn_212 Z (Int32.ofNat t) (Int32.ofInt day + 1)) (Int32.ofInt s) else (-2, Z)).1 = Int32.ofInt (if day = 35999 then -2 else if (yRq (g 541) t lst (day + 1)).length = 0 then -2 else 86400 - s + y_s1 (yRq (g 541) t lst (day + 1)) 0) := by
    by_cases c : day = 35999
    · rw [if_neg (fun z => zd.mp z c), if_pos c]
      rfl
    · rw [if_pos (zd.mpr c), if_neg c, show Int32.ofInt day + 1 = Int32.ofInt (day + 1) from yi_add day 1]
      have L2 := rl_lay W ht Br (show 0 ≤ day + 1 ∧ day + 1 ≤ 35999 by omega) L.2.2.1 L.2.2.2
      have hb2 := yRq_b (d := day + 1) (yWb_of W) ht Br
      have l2 := yRq_len (t := t) (d := day + 1) Br
      generalize yRq (g 541) t lst (day + 1) = R2 at L2 hb2 l2 ⊢
      unfold fn_219_80
      have e0 : (fn_212 Z (Int32.ofNat t) (Int32.ofInt (day + 1))) 540 26 = 0 ↔ R2.length = 0 := by
        rw [L2.1.1, yi_n]
        exact (yi_eq (b := 0) (by omega) (by omega)).trans (by omega)
      by_cases c2 : R2.length = 0
      · rw [if_neg (fun z => z (e0.mpr c2)), if_pos c2]
        rfl
      · obtain ⟨a1, -⟩ := rl_at L2 (show 0 < R2.length by omega)
        rw [if_pos (mt e0.mp c2), if_neg c2, show (0 : Int32).toNatClampNeg = 0 from rfl, a1, show (86400 : Int32) - Int32.ofInt s = Int32.ofInt (86400 - s) from yi_sub 86400 s, yi_add]
  have key : ∀ (n i : Nat), i + n = R.length → (fn_219_27 Z (Int32.ofNat t) (Int32.ofInt day) (Int32.ofInt s) (Int32.ofNat i)).1 = Int32.ofInt (y_so R s (if day = 35999 then -2 else if (yRq (g 541) t lst (day + 1)).length = 0 then -2 else 86400 - s + y_s1 (yRq (g 541) t lst (day + 1)) 0) i n) := by
    intro n
    induction n with
    | zero =>
      intro i e
      refine Eq.trans (congrArg Prod.fst (?_ : _ = (if Int32.ofInt day ≠ 35999 then fn_219_80 (fn_212 Z (Int32.ofNat t) (Int32.ofInt day + 1)) (Int32.ofInt s) else (-2, Z)))) last
      unfold fn_219_27
      refine lp_r ?_
      unfold fn_219_27b
      rw [L.1.1, if_pos (aa_le32.mpr (by rw [zz_ofN (by omega), zz_ofN (by omega)]; omega))]
      by_cases c : Int32.ofInt day ≠ 35999
      · rw [if_pos c, if_pos c]
      · rw [if_neg c, if_neg c]
    | succ n ih =>
      intro i e
      obtain ⟨a1, -⟩ := rl_at L (show i < R.length by omega)
      have b1 := y_s_b hb (show i < R.length by omega)
      have k1 : ¬ Int32.ofNat R.length ≤ Int32.ofNat i := fun z => by have := aa_le32.mp z; rw [zz_ofN (by omega), zz_ofN (by omega)] at this; omega
      have z : Int32.ofInt (y_s1 R i) < Int32.ofInt s ↔ y_s1 R i < s := yi_lt (by omega) (by omega)
      show _ = Int32.ofInt (if s ≤ y_s1 R i then y_s1 R i - s else y_so R s _ (i + 1) n)
      by_cases c : s ≤ y_s1 R i
      · rw [if_pos c]
        refine congrArg Prod.fst (?_ : _ = (Int32.ofInt (y_s1 R i - s), Z))
        unfold fn_219_27
        refine lp_r ?_
        unfold fn_219_27b
        rw [L.1.1, if_neg k1, zz_toN (by omega), a1, if_neg (mt z.mp (by omega)), yi_sub]
      · rw [if_neg c, ← ih (i + 1) (by omega)]
        refine congrArg Prod.fst ?_
        unfold fn_219_27
        refine lp_l ?_
        unfold fn_219_27b
        rw [L.1.1, if_neg k1, zz_toN (by omega), a1, if_pos (z.mpr (by omega)), aa_succ]
  unfold fn_219_24
  exact key R.length 0 (by omega)
end YRM
