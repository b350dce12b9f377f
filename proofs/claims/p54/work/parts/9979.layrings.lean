/-! THE RINGS AS THE MODEL LAYS THEM (212, 216), told absolutely -/
def rl_m (Y : aa_G) (L : List (Int × Int)) : Prop := Y 540 26 = Int32.ofNat L.length ∧ (∀ (i : Nat) (z : Int × Int), L[i]? = some z → Y 546 i = Int32.ofInt z.1 ∧ Y 547 i = Int32.ofInt z.2) ∧ ∀ z ∈ L, (0 ≤ z.1 ∧ z.1 ≤ 86399) ∧ (0 ≤ z.2 ∧ z.2 ≤ 7)
def rl_f (Y Z : aa_G) : Prop := ∀ a j, a ≠ 546 → a ≠ 547 → ¬ (a = 540 ∧ j = 26) → Z a j = Y a j
theorem y_cnt_n {L : List (Int × Int)} {s : Int} {n : Nat} (hn : n ≤ L.length) (h1 : ∀ (j : Nat) (z : Int × Int), L[j]? = some z → j < n → z.1 ≤ s) (h2 : ∀ (j : Nat) (z : Int × Int), L[j]? = some z → n ≤ j → s < z.1) : L.countP (y_le s) = n := by
  have e : L = L.take n ++ L.drop n := (List.take_append_drop n L).symm
  rw [e, List.countP_append]
  have e1 : (L.take n).countP (y_le s) = (L.take n).length := List.countP_eq_length.mpr fun z hz => by
    obtain ⟨j, hj, ej⟩ := List.getElem_of_mem hz
    rw [List.length_take] at hj
    refine decide_eq_true (h1 j z ?_ (by omega))
    rw [List.getElem_take] at ej
    rw [← ej]
    exact List.getElem?_eq_getElem (by omega)
  have e2 : (L.drop n).countP (y_le s) = 0 := List.countP_eq_zero.mpr fun z hz q => by
    obtain ⟨j, hj, ej⟩ := List.getElem_of_mem hz
    rw [List.length_drop] at hj
    have q := of_decide_eq_true q
    have := h2 (n + j) z (by rw [List.getElem_drop] at ej; rw [← ej]; exact List.getElem?_eq_getElem (by omega)) (by omega)
    omega
  rw [e1, e2, List.length_take]
  omega
section YR79
variable {Y : aa_G} {L : List (Int × Int)} {s k : Int}
theorem ri_fin (hL : y_sd L) (l16 : L.length < 16) (hb : ∀ z ∈ L, (0 ≤ z.1 ∧ z.1 ≤ 86399) ∧ (0 ≤ z.2 ∧ z.2 ≤ 7)) (h0 : 0 ≤ s ∧ s ≤ 86399) (hk : 0 ≤ k ∧ k ≤ 7) {n : Nat} {B : aa_G} (hn : n ≤ L.length) (b1 : ∀ (j : Nat) (z : Int × Int), L[j]? = some z → j < n → B 546 j = Int32.ofInt z.1 ∧ B 547 j = Int32.ofInt z.2) (b2 : ∀ (j : Nat) (z : Int × Int), L[j]? = some z → n ≤ j → B 546 (j + 1) = Int32.ofInt z.1 ∧ B 547 (j + 1) = Int32.ofInt z.2 ∧ s < z.1) (b3 : B 540 26 = Int32.ofNat L.length) (bf : rl_f Y B) (hle : ∀ (j : Nat) (z : Int × Int), L[j]? = some z → j < n → z.1 ≤ s) : rl_m (fn_216_55 B (Int32.ofInt s) (Int32.ofInt k) (Int32.ofNat n)) (y_ins (s, k) L) ∧ rl_f Y (fn_216_55 B (Int32.ofInt s) (Int32.ofInt k) (Int32.ofNat n)) := by
  have hc : L.countP (y_le s) = n := y_cnt_n hn hle fun j z e q => (b2 j z e q).2.2
  unfold fn_216_55 fn_216_71
  rw [zz_toN (by omega)]
  have f26 : (zz_w (zz_w B 546 n (Int32.ofInt s)) 547 n (Int32.ofInt k)) 540 26 = Int32.ofNat L.length := by rw [aa_w_ne _ _ (by omega), aa_w_ne _ _ (by omega)]; exact b3
  rw [f26]
  refine ⟨⟨?_, fun i z e => ?_, fun z hz => ?_⟩, fun a j h1 h2 h3 => ?_⟩
  · rw [aa_w_at, y_ins_len, yi_n, yi_n]
    exact yi_add (L.length : Int) 1
  · rw [aa_w_ne _ _ (show ¬ (546 = 540 ∧ i = 26) by omega), aa_w_ne _ _ (show ¬ (547 = 540 ∧ i = 26) by omega), aa_w_ne _ _ (show ¬ (546 = 547 ∧ i = n) by omega)]
    rcases y_ins_of hL e with ⟨e1, e2⟩ | ⟨p, e1, e2⟩
    · have e1 : i = n := e1.trans hc
      subst e1 e2
      rw [aa_w_at, aa_w_at]
      exact ⟨rfl, rfl⟩
    · have e2 : i = if s < z.1 then p + 1 else p := e2
      by_cases c : s < z.1
      · rw [if_pos c] at e2
        have hp : n ≤ p := Nat.not_lt.mp fun q => by have := hle p z e1 q; omega
        obtain ⟨q1, q2, -⟩ := b2 p z e1 hp
        subst e2
        rw [aa_w_ne _ _ (show ¬ (546 = 546 ∧ p + 1 = n) by omega), aa_w_ne _ _ (show ¬ (547 = 547 ∧ p + 1 = n) by omega), aa_w_ne _ _ (show ¬ (547 = 546 ∧ p + 1 = n) by omega)]
        exact ⟨q1, q2⟩
      · rw [if_neg c] at e2
        have hp : p < n := Nat.not_le.mp fun q => c (b2 p z e1 q).2.2
        obtain ⟨q1, q2⟩ := b1 p z e1 hp
        subst e2
        rw [aa_w_ne _ _ (show ¬ (546 = 546 ∧ i = n) by omega), aa_w_ne _ _ (show ¬ (547 = 547 ∧ i = n) by omega), aa_w_ne _ _ (show ¬ (547 = 546 ∧ i = n) by omega)]
        exact ⟨q1, q2⟩
  · rcases y_ins_mem hz with e | e
    · rw [e]
      exact ⟨h0, hk⟩
    · exact hb z e
  · rw [aa_w_ne _ _ (by omega), aa_w_ne _ _ (by omega), aa_w_ne _ _ (by omega)]
    exact bf a j h1 h2 h3
theorem ri_go (hL : y_sd L) (l16 : L.length < 16) (hb : ∀ z ∈ L, (0 ≤ z.1 ∧ z.1 ≤ 86399) ∧ (0 ≤ z.2 ∧ z.2 ≤ 7)) (h0 : 0 ≤ s ∧ s ≤ 86399) (hk : 0 ≤ k ∧ k ≤ 7) : ∀ (n : Nat) (B : aa_G), n ≤ L.length → (∀ (j : Nat) (z : Int × Int), L[j]? = some z → j < n → B 546 j = Int32.ofInt z.1 ∧ B 547 j = Int32.ofInt z.2) → (∀ (j : Nat) (z : Int × Int), L[j]? = some z → n ≤ j → B 546 (j + 1) = Int32.ofInt z.1 ∧ B 547 (j + 1) = Int32.ofInt z.2 ∧ s < z.1) → B 540 26 = Int32.ofNat L.length → rl_f Y B → rl_m (fn_216_5 B (Int32.ofInt s) (Int32.ofInt k) (Int32.ofNat n)) (y_ins (s, k) L) ∧ rl_f Y (fn_216_5 B (Int32.ofInt s) (Int32.ofInt k) (Int32.ofNat n))
  | 0, B, hn, b1, b2, b3, bf => by
    have e : fn_216_5 B (Int32.ofInt s) (Int32.ofInt k) (Int32.ofNat 0) = fn_216_55 B (Int32.ofInt s) (Int32.ofInt k) (Int32.ofNat 0) := by
      unfold fn_216_5
      refine lp_r ?_
      dsimp only
      unfold fn_216_5b
      rw [if_pos (by decide)]
    rw [e]
    exact ri_fin hL l16 hb h0 hk hn b1 b2 b3 bf fun j z _ q => absurd q (Nat.not_lt_zero j)
  | n + 1, B, hn, b1, b2, b3, bf => by
    obtain ⟨y, ey⟩ : ∃ y, L[n]? = some y := ⟨_, List.getElem?_eq_getElem (by omega)⟩
    obtain ⟨v1, v2⟩ := b1 n y ey (by omega)
    have hy := hb y (List.mem_of_getElem? ey)
    have c0 : ¬ Int32.ofNat (n + 1) ≤ 0 := fun z => by have := aa_le32.mp z; rw [zz_ofN (by omega), i_0] at this; omega
    have em : Int32.ofNat (n + 1) - 1 = Int32.ofNat n := by rw [cb_pred (by omega) (by omega), Nat.add_sub_cancel]
    have em2 : Int32.ofNat (n + 1) + (-1) = Int32.ofNat n := by rw [Int32.add_neg_eq_sub, em]
    by_cases z : y.1 ≤ s
    · have e : fn_216_5 B (Int32.ofInt s) (Int32.ofInt k) (Int32.ofNat (n + 1)) = fn_216_55 B (Int32.ofInt s) (Int32.ofInt k) (Int32.ofNat (n + 1)) := by
        unfold fn_216_5
        refine lp_r ?_
        dsimp only
        unfold fn_216_5b
        rw [if_neg c0, em, zz_toN (by omega), v1, if_pos ((yi_le (by omega) (by omega)).mpr z)]
      rw [e]
      refine ri_fin hL l16 hb h0 hk hn b1 b2 b3 bf fun j x ex q => ?_
      have hj := (List.getElem?_eq_some_iff.mp ex).1
      rcases Nat.eq_or_lt_of_le (Nat.le_of_lt_succ q) with q | q
      · rw [q, ey] at ex
        cases ex
        exact z
      · have h9 := List.pairwise_iff_getElem.mp hL j n hj (by omega) q
        rw [List.getElem?_eq_getElem hj] at ex
        rw [List.getElem?_eq_getElem (show n < L.length by omega)] at ey
        rw [Option.some.inj ex, Option.some.inj ey] at h9
        omega
    · have e : fn_216_5 B (Int32.ofInt s) (Int32.ofInt k) (Int32.ofNat (n + 1)) = fn_216_5 (zz_w (zz_w B 546 (n + 1) (B 546 n)) 547 (n + 1) (B 547 n)) (Int32.ofInt s) (Int32.ofInt k) (Int32.ofNat n) := by
        unfold fn_216_5
        refine lp_l ?_
        dsimp only
        unfold fn_216_5b
        rw [if_neg c0, em, zz_toN (by omega), if_neg (by rw [v1]; exact mt (yi_le (by omega) (by omega)).mp z)]
        unfold fn_216_47
        rw [em2, zz_toN (by omega), zz_toN (by omega), aa_w_ne B (B 546 n) (show ¬ (547 = 546 ∧ n = n + 1) by omega)]
      rw [e]
      refine ri_go hL l16 hb h0 hk n _ (by omega) (fun j x ex q => ?_) (fun j x ex q => ?_) ?_ fun a j h1 h2 h3 => ?_
      · rw [aa_w_ne _ _ (show ¬ (546 = 547 ∧ j = n + 1) by omega), aa_w_ne _ _ (show ¬ (546 = 546 ∧ j = n + 1) by omega), aa_w_ne _ _ (show ¬ (547 = 547 ∧ j = n + 1) by omega), aa_w_ne _ _ (show ¬ (547 = 546 ∧ j = n + 1) by omega)]
        exact b1 j x ex (by omega)
      · by_cases ej : j = n
        · rw [ej, ey] at ex
          cases ex
          rw [ej, aa_w_ne _ _ (show ¬ (546 = 547 ∧ n + 1 = n + 1) by omega), aa_w_at, aa_w_at]
          exact ⟨v1, v2, by omega⟩
        · rw [aa_w_ne _ _ (show ¬ (546 = 547 ∧ j + 1 = n + 1) by omega), aa_w_ne _ _ (show ¬ (546 = 546 ∧ j + 1 = n + 1) by omega), aa_w_ne _ _ (show ¬ (547 = 547 ∧ j + 1 = n + 1) by omega), aa_w_ne _ _ (show ¬ (547 = 546 ∧ j + 1 = n + 1) by omega)]
          exact b2 j x ex (by omega)
      · rw [aa_w_ne _ _ (by omega), aa_w_ne _ _ (by omega)]
        exact b3
      · rw [aa_w_ne _ _ (by omega), aa_w_ne _ _ (by omega)]
        exact bf a j h1 h2 h3
/-- a ring comes in -/
theorem ri_in (h : rl_m Y L) (hL : y_sd L) (l16 : L.length < 16) (h0 : 0 ≤ s ∧ s ≤ 86399) (hk : 0 ≤ k ∧ k ≤ 7) : rl_m (fn_216 Y (Int32.ofInt s) (Int32.ofInt k)) (y_ins (s, k) L) ∧ rl_f Y (fn_216 Y (Int32.ofInt s) (Int32.ofInt k)) := by
  unfold fn_216
  rw [h.1]
  refine ri_go hL l16 h.2.2 h0 hk L.length Y (Nat.le_refl _) (fun j z e _ => h.2.1 j z e) (fun j z e q => ?_) h.1 fun _ _ _ _ _ => rfl
  have := (List.getElem?_eq_some_iff.mp e).1
  omega
end YR79
/-- the model's ring of a bell in a half, and W's -/
theorem y_rv {g : aa_G} {t : Nat} {B : yBell} {ts : List fl_T} {d : Int} (W : wd_g g) (ht : (t : Int) < (g 541 0).toInt) (h0 : 0 ≤ B.2.1 ∧ B.2.1 ≤ 11) (h1 : 0 ≤ B.2.2.1 ∧ B.2.2.1 ≤ 10000) (E : ev_E) (hE : ∀ u l : Int, hv_t (g 541) t d B.1 = some (u, l) → E = (Int32.ofInt d - Int32.ofInt d / 7 * 7, (Int32.ofInt d - Int32.ofInt d / 360 * 360, (Int32.ofInt l, (Int32.ofInt (t : Int), Int32.ofInt d))))) : (fun v : Int32 => if v = -2 then (-1 : Int32) else v) (rv (g 541) (yF_of B) ts E (hv_t (g 541) t d B.1)) = Int32.ofInt (yRg (g 541 1).toInt (av_t (g 541) t) (av_c (g 541) t) B ts (t : Int) d) ∧ (rv (g 541) (yF_of B) ts E (hv_t (g 541) t d B.1) = -2 ∨ rv (g 541) (yF_of B) ts E (hv_t (g 541) t d B.1) = Int32.ofInt (yRg (g 541 1).toInt (av_t (g 541) t) (av_c (g 541) t) B ts (t : Int) d)) := by
  have hq := W.2.1
  have hB := yWb_of W
  have key : rv (g 541) (yF_of B) ts E (hv_t (g 541) t d B.1) = -2 ∧ yRg (g 541 1).toInt (av_t (g 541) t) (av_c (g 541) t) B ts (t : Int) d = -1 ∨ rv (g 541) (yF_of B) ts E (hv_t (g 541) t d B.1) = Int32.ofInt (yRg (g 541 1).toInt (av_t (g 541) t) (av_c (g 541) t) B ts (t : Int) d) ∧ 0 ≤ yRg (g 541 1).toInt (av_t (g 541) t) (av_c (g 541) t) B ts (t : Int) d ∧ yRg (g 541 1).toInt (av_t (g 541) t) (av_c (g 541) t) B ts (t : Int) d ≤ 300000 := by
    have eq : hv_t (g 541) t d B.1 = tw_H (av_t (g 541) t) (av_c (g 541) t) d B.1 := rfl
    unfold rv yRg
    rw [← eq]
    cases e : hv_t (g 541) t d B.1 with
    | none =>
      rw [if_pos rfl]
      exact Or.inl ⟨rfl, rfl⟩
    | some p =>
      obtain ⟨u, l⟩ := p
      have hl := hv_bnd2 hB ht e
      rw [if_neg (fun z => nomatch z), hE u l e]
      dsimp only
      have c2 : g 541 1 ≤ (yF_of B).2.2.1 ↔ (g 541 1).toInt ≤ B.2.2.1 := by
        show g 541 1 ≤ Int32.ofInt B.2.2.1 ↔ _
        rw [aa_le32, yi_T (by omega)]
      by_cases z : (g 541 1).toInt ≤ B.2.2.1
      · rw [if_pos (c2.mpr z), if_pos z]
        exact Or.inl ⟨rfl, rfl⟩
      rw [if_neg (mt c2.mp z), if_neg z]
      by_cases y : ev_H (Int32.ofInt d - Int32.ofInt d / 7 * 7, (Int32.ofInt d - Int32.ofInt d / 360 * 360, (Int32.ofInt l, (Int32.ofInt (t : Int), Int32.ofInt d)))) true ts ts = true
      · rw [if_pos y, if_pos y]
        have m := yi_pb (a := B.2.1) (b := (g 541 1).toInt) (x := 11) (y := 3600) (by omega) (by omega)
        have m0 : 0 ≤ B.2.1 * (g 541 1).toInt := Int.mul_nonneg h0.1 (by omega)
        have m1 : B.2.1 * (g 541 1).toInt ≤ 11 * (g 541 1).toInt := Int.mul_le_mul_of_nonneg_right h0.2 (by omega)
        have en : (yF_of B).2.1 * g 541 1 + (yF_of B).2.2.1 = Int32.ofInt (B.2.1 * (g 541 1).toInt + B.2.2.1) := by
          show Int32.ofInt B.2.1 * g 541 1 + Int32.ofInt B.2.2.1 = _
          rw [← yi_add, ← yi_mul, yi_of]
        have h9 := y_spb (o := some (u, l)) (q := (g 541 1).toInt) (n := B.2.1 * (g 541 1).toInt + B.2.2.1) (fun u' l' e' => by cases e'; omega) hq (by omega)
        rw [yi_of] at h9
        rw [en, h9]
        have k := yk_b (q := (g 541 1).toInt) (n := B.2.1 * (g 541 1).toInt + B.2.2.1) (l := l) (by omega) (by omega) (by omega)
        unfold s_b
        dsimp only
        generalize yk (g 541 1).toInt (B.2.1 * (g 541 1).toInt + B.2.2.1) l = x at k ⊢
        by_cases c : x = l
        · rw [if_pos c, if_neg (by omega)]
          exact Or.inl ⟨rfl, rfl⟩
        · rw [if_neg c, if_pos (by omega)]
          exact Or.inr ⟨rfl, by omega, by omega⟩
      · rw [if_neg y, if_neg y]
        exact Or.inl ⟨rfl, rfl⟩
  rcases key with ⟨e1, e2⟩ | ⟨e1, e2, e3⟩
  · rw [e1, e2]
    exact ⟨rfl, Or.inl rfl⟩
  · rw [e1]
    refine ⟨if_neg fun z => ?_, Or.inr rfl⟩
    have := (yi_eq (b := -2) (by omega) (by omega)).mp z
    omega
/-- one bell's rings, as they are gathered -/
def y_pc (q : Int) (T : Nat → Nat → Int) (c : Nat) (t d k : Int) (e : yBell × List fl_T) : List (Int × Int) := (if e.1.1 = 1 ∧ 86400 ≤ yRg q T c e.1 e.2 t (d - 1) then [(yRg q T c e.1 e.2 t (d - 1) - 86400, k)] else []) ++ (if 0 ≤ yRg q T c e.1 e.2 t d ∧ yRg q T c e.1 e.2 t d < 86400 then [(yRg q T c e.1 e.2 t d, k)] else [])
def y_foldi (L G : List (Int × Int)) : List (Int × Int) := G.foldl (fun L x => y_ins x L) L
theorem y_foldi_app (L G H : List (Int × Int)) : y_foldi L (G ++ H) = y_foldi (y_foldi L G) H := List.foldl_append ..
theorem y_srt_f (G : List (Int × Int)) : y_srt G = y_foldi [] G := rfl
theorem y_foldi_ok : ∀ (G L : List (Int × Int)), y_sd L → y_sd (y_foldi L G) ∧ (y_foldi L G).length = L.length + G.length
  | [], L, h => ⟨h, rfl⟩
  | x :: G, L, h => by
    obtain ⟨a, b⟩ := y_foldi_ok G (y_ins x L) (y_ins_sd h)
    refine ⟨a, b.trans ?_⟩
    rw [y_ins_len, List.length_cons]
    omega
/-- a heap where rings are being laid -/
def rl_w (g Y : aa_G) (L : List (Int × Int)) : Prop := rl_m Y L ∧ y_sd L ∧ wd_g Y ∧ Y 541 = g 541
section YL79
variable {g : aa_G} {t : Nat} {day : Int}
theorem rl_w.mv {Y Z : aa_G} {L : List (Int × Int)} (h : rl_w g Y L) (w : wd_g Z) (e : Z 541 = g 541) (f : ∀ a j, a ≠ 548 → a ≠ 549 → ¬ (a = 540 ∧ 13 ≤ j ∧ j ≤ 18) → Z a j = Y a j) : rl_w g Z L := by
  obtain ⟨⟨h1, h2, h3⟩, h4, -, -⟩ := h
  refine ⟨⟨(f 540 26 (by omega) (by omega) (by omega)).trans h1, fun i z ez => ?_, h3⟩, h4, w, e⟩
  obtain ⟨a, b⟩ := h2 i z ez
  exact ⟨(f 546 i (by omega) (by omega) (by omega)).trans a, (f 547 i (by omega) (by omega) (by omega)).trans b⟩
theorem rl_w.put {Y : aa_G} {L : List (Int × Int)} {s k : Int} (h : rl_w g Y L) (l16 : L.length < 16) (h0 : 0 ≤ s ∧ s ≤ 86399) (hk : 0 ≤ k ∧ k ≤ 7) : rl_w g (fn_216 Y (Int32.ofInt s) (Int32.ofInt k)) (y_ins (s, k) L) := by
  obtain ⟨h1, h2, h3, h4⟩ := h
  obtain ⟨a, f⟩ := ri_in h1 h2 l16 h0 hk
  exact ⟨a, y_ins_sd h2, wd_of h3 fun a j z => f a j (by omega) (by omega) (by omega), (funext fun j => f 541 j (by omega) (by omega) (by omega)).trans h4⟩
/-- the environment of a COND in a half -/
def y_Ev (g : aa_G) (t : Nat) (d f : Int) : ev_E := (Int32.ofInt d - Int32.ofInt d / 7 * 7, (Int32.ofInt d - Int32.ofInt d / 360 * 360, (Int32.ofInt (y_el (hv_t (g 541) t d f) 0 (fun _ l => l)), (Int32.ofInt (t : Int), Int32.ofInt d))))
/-- the same, and two rows as they were -/
def rl_u (g Y : aa_G) (L : List (Int × Int)) : Prop := rl_w g Y L ∧ ∀ a j, a = 550 ∨ a = 551 → Y a j = g a j
theorem rl_u.mv {Y Z : aa_G} {L : List (Int × Int)} (h : rl_u g Y L) (w : wd_g Z) (e : Z 541 = g 541) (f : ∀ a j, a ≠ 548 → a ≠ 549 → ¬ (a = 540 ∧ 13 ≤ j ∧ j ≤ 18) → Z a j = Y a j) : rl_u g Z L := ⟨h.1.mv w e f, fun a j q => (f a j (by omega) (by omega) (by omega)).trans (h.2 a j q)⟩
theorem rl_u.put {Y : aa_G} {L : List (Int × Int)} {s k : Int} (h : rl_u g Y L) (l16 : L.length < 16) (h0 : 0 ≤ s ∧ s ≤ 86399) (hk : 0 ≤ k ∧ k ≤ 7) : rl_u g (fn_216 Y (Int32.ofInt s) (Int32.ofInt k)) (y_ins (s, k) L) := ⟨h.1.put l16 h0 hk, fun a j q => ((ri_in h.1.1 h.1.2.1 l16 h0 hk).2 a j (by omega) (by omega) (by omega)).trans (h.2 a j q)⟩
/-- what a half of a day gives for a bell, on the model's side -/
theorem rl_half {Y : aa_G} {L : List (Int × Int)} {k : Nat} {e : yBell × List fl_T} {c0 : Nat} {cs : List Int32} (W : wd_g g) (ht : (t : Int) < (g 541 0).toInt) (h : rl_u g Y L) (hk : k < 8) (hm : br_m (fun q => g 541 (203 + q)) (fun q => g 541 (259 + q)) k (yF_of e.1) e.2.length c0 cs) (hr : cd_rel e.2 cs) (h0 : e.1.1 = 0 ∨ e.1.1 = 1) (h1 : 0 ≤ e.1.2.1 ∧ e.1.2.1 ≤ 11) (h2 : 0 ≤ e.1.2.2.1 ∧ e.1.2.2.1 ≤ 3599) (h3 : 1 ≤ e.1.2.2.2.1 ∧ e.1.2.2.2.1 ≤ 24) (hd : -1 ≤ day ∧ day ≤ 36100) : ∃ (Z : aa_G) (v : Int32), rl_u g Z L ∧ (v = -2 ∨ (0 ≤ v.toInt ∧ v.toInt ≤ 172797)) ∧ (v = -2 ∧ yRg (g 541 1).toInt (av_t (g 541) t) (av_c (g 541) t) e.1 e.2 (t : Int) day < 0 ∨ v ≠ -2 ∧ v = Int32.ofInt (yRg (g 541 1).toInt (av_t (g 541) t) (av_c (g 541) t) e.1 e.2 (t : Int) day) ∧ 0 ≤ yRg (g 541 1).toInt (av_t (g 541) t) (av_c (g 541) t) e.1 e.2 (t : Int) day ∧ yRg (g 541 1).toInt (av_t (g 541) t) (av_c (g 541) t) e.1 e.2 (t : Int) day ≤ 172798) ∧
    ((fn_194 Y (Int32.ofNat t) (Int32.ofInt day) (Int32.ofInt e.1.1)).1 = 0 ∧ v = -2 ∧ Z = (fn_194 Y (Int32.ofNat t) (Int32.ofInt day) (Int32.ofInt e.1.1)).2 ∨ (fn_194 Y (Int32.ofNat t) (Int32.ofInt day) (Int32.ofInt e.1.1)).1 ≠ 0 ∧ fn_213 (fn_194 Y (Int32.ofNat t) (Int32.ofInt day) (Int32.ofInt e.1.1)).2 (Int32.ofNat t) (Int32.ofInt day) (Int32.ofNat k) = (if v = -2 then -1 else v, Z)) := by
  have hF : br_F (yF_of e.1) := by
    refine ⟨?_, ?_, ?_, ?_⟩
    · rcases h0 with z | z
      · exact .inl (congrArg Int32.ofInt z)
      · exact .inr (congrArg Int32.ofInt z)
    · show 0 ≤ (Int32.ofInt e.1.2.1).toInt ∧ (Int32.ofInt e.1.2.1).toInt ≤ 11
      rw [yi_T (by omega)]
      exact h1
    · show 0 ≤ (Int32.ofInt e.1.2.2.1).toInt ∧ (Int32.ofInt e.1.2.2.1).toInt ≤ 3599
      rw [yi_T (by omega)]
      exact h2
    · show 1 ≤ (Int32.ofInt e.1.2.2.2.1).toInt ∧ (Int32.ofInt e.1.2.2.2.1).toInt ≤ 24
      rw [yi_T (by omega)]
      exact h3
  have hh : Int32.ofInt e.1.1 = 0 ∨ Int32.ofInt e.1.1 = 1 := hF.1
  have td : (Int32.ofInt day).toInt = day := yi_T (by omega)
  have tf : (Int32.ofInt e.1.1).toInt = e.1.1 := yi_T (by omega)
  obtain ⟨Z, z1, z2, z3, z4⟩ := mh_90 (E := y_Ev g t day e.1.1) (d := Int32.ofInt day) (h := Int32.ofInt e.1.1) W ht h.1.2.2.1 h.1.2.2.2 (show (8 : Nat) ≤ 8 from Nat.le_refl _) hk hm hr hF hh (fun u l hq Z hZ => by
    rw [td, tf] at hq
    unfold y_Ev
    rw [hq, show Z 540 18 = Int32.ofInt l by rw [← hZ, yi_of], yi_n]
    rfl)
  rw [td, tf] at z4
  have rb := rv_b (ts := e.2) (E := y_Ev g t day e.1.1) (b := day) (h := e.1.1) W ht hF
  obtain ⟨ry1, ry2⟩ := y_rv (B := e.1) (ts := e.2) (d := day) W ht h1 (by omega) (y_Ev g t day e.1.1) (fun u l hq => by unfold y_Ev; rw [hq]; rfl)
  have bb := yRg_b (q := (g 541 1).toInt) (B := e.1) (ts := e.2) (t := (t : Int)) (d := day) (W.2.2.2.2.2 t ht).2.2.2.2.1 W.2.1.1 h1.1 h2.1
  generalize rv (g 541) (yF_of e.1) e.2 (y_Ev g t day e.1.1) (hv_t (g 541) t day e.1.1) = v at rb ry1 ry2 z4
  generalize yRg (g 541 1).toInt (av_t (g 541) t) (av_c (g 541) t) e.1 e.2 (t : Int) day = x at ry1 ry2 bb ⊢
  refine ⟨Z, v, h.mv z1 z2 fun a j k1 k2 k3 => z3 a j k1 k2 k3, rb, ?_, z4⟩
  by_cases c : v = -2
  · refine Or.inl ⟨c, ?_⟩
    dsimp only at ry1
    rw [if_pos c] at ry1
    have := (yi_eq (a := -1) (b := x) (by omega) (by omega)).mp (show Int32.ofInt (-1) = Int32.ofInt x from ry1)
    omega
  · dsimp only at ry1
    rw [if_neg c] at ry1
    refine Or.inr ⟨c, ry1, ?_, bb.2⟩
    have rb := rb.resolve_left c
    rw [ry1, yi_T (by omega)] at rb
    exact rb.1
theorem rl_bell {Y : aa_G} {L : List (Int × Int)} {k : Nat} {e : yBell × List fl_T} {c0 : Nat} {cs : List Int32} (W : wd_g g) (ht : (t : Int) < (g 541 0).toInt) (h : rl_u g Y L) (hl : L.length ≤ 14) (hk : k < 8) (h541 : (k : Int) < (g 541 2).toInt) (hm : br_m (fun q => g 541 (203 + q)) (fun q => g 541 (259 + q)) k (yF_of e.1) e.2.length c0 cs) (hr : cd_rel e.2 cs) (h0 : e.1.1 = 0 ∨ e.1.1 = 1) (h1 : 0 ≤ e.1.2.1 ∧ e.1.2.1 ≤ 11) (h2 : 0 ≤ e.1.2.2.1 ∧ e.1.2.2.1 ≤ 3599) (h3 : 1 ≤ e.1.2.2.2.1 ∧ e.1.2.2.2.1 ≤ 24) (hd : 0 ≤ day ∧ day ≤ 36100) : ∃ Z : aa_G, fn_212_7b Y (Int32.ofNat t) (Int32.ofInt day) (Int32.ofNat k) = .inl (Z, Int32.ofNat (k + 1)) ∧ rl_u g Z (y_foldi L (y_pc (g 541 1).toInt (av_t (g 541) t) (av_c (g 541) t) (t : Int) day k e)) := by
  have e203 : (203 : Int32) + 7 * Int32.ofNat k = Int32.ofNat (203 + 7 * k) := by rw [mb_7 (by omega), show (203 : Int32) + Int32.ofNat (7 * k) = Int32.ofNat (203 + 7 * k) from i_add 203 (7 * k)]
  have k1 : ¬ Y 541 2 ≤ Int32.ofNat k := fun z => by
    have := aa_le32.mp z
    rw [h.1.2.2.2, zz_ofN (by omega)] at this
    omega
  have yh : Y 541 (203 + 7 * k) = Int32.ofInt e.1.1 := by rw [h.1.2.2.2]; exact hm.1.1
  have ks : Int32.ofNat k + 1 = Int32.ofNat (k + 1) := aa_succ ..
  have last : ∀ (Y1 : aa_G) (L1 : List (Int × Int)), rl_u g Y1 L1 → L1.length ≤ 15 → ∃ Z : aa_G, fn_212_82 Y1 (Int32.ofNat t) (Int32.ofInt day) (Int32.ofNat k) (Int32.ofInt e.1.1) = .inl (Z, Int32.ofNat (k + 1)) ∧ rl_u g Z (y_foldi L1 (if 0 ≤ yRg (g 541 1).toInt (av_t (g 541) t) (av_c (g 541) t) e.1 e.2 (t : Int) day ∧ yRg (g 541 1).toInt (av_t (g 541) t) (av_c (g 541) t) e.1 e.2 (t : Int) day < 86400 then [(yRg (g 541 1).toInt (av_t (g 541) t) (av_c (g 541) t) e.1 e.2 (t : Int) day, (k : Int))] else [])) := by
    intro Y1 L1 p1 p2
    obtain ⟨Z, v, a1, a2, a3, a4⟩ := rl_half (day := day) W ht p1 hk hm hr h0 h1 h2 h3 (by omega)
    have e9 : fn_212_82 Y1 (Int32.ofNat t) (Int32.ofInt day) (Int32.ofNat k) (Int32.ofInt e.1.1) = .inl ((if v = -2 then Z else if fn_14 (v - 0) 0 86399 = 0 then Z else fn_216 Z (v - 0) (Int32.ofNat k)), Int32.ofNat k + 1) := by
      unfold fn_212_82 fn_212_90 fn_212_100
      rw [← ha_0 a2 (Int32.ofNat t) (Int32.ofInt day)]
      rcases a4 with ⟨c1, c2, c3⟩ | ⟨c1, c2⟩
      · rw [if_pos c1, ← c3, c2, if_pos (c := (-2 : Int32) = -2) rfl]
      · rw [if_neg c1, c2]
    rw [e9, ks]
    refine ⟨_, rfl, ?_⟩
    generalize yRg (g 541 1).toInt (av_t (g 541) t) (av_c (g 541) t) e.1 e.2 (t : Int) day = x at a3 ⊢
    rcases a3 with ⟨c, cx⟩ | ⟨c, c2, c3, c4⟩
    · rw [if_pos c, if_neg (by omega)]
      exact a1
    · rw [if_neg c, c2, show Int32.ofInt x - 0 = Int32.ofInt (x - 0) from yi_sub x 0, Int.sub_zero]
      have E : fn_14 (Int32.ofInt x) 0 86399 = 0 ↔ ¬ (0 ≤ x ∧ x ≤ 86399) := by
        rw [ti_14z, yi_T (by omega)]
        exact Iff.rfl
      by_cases q : 0 ≤ x ∧ x < 86400
      · rw [if_neg (mt E.mp (by omega)), if_pos q, yi_n k]
        exact a1.put (by omega) (by omega) (by omega)
      · rw [if_pos (E.mpr (by omega)), if_neg q]
        exact a1
  have key : ∃ (Y1 : aa_G) (L1 : List (Int × Int)), fn_212_7b Y (Int32.ofNat t) (Int32.ofInt day) (Int32.ofNat k) = fn_212_82 Y1 (Int32.ofNat t) (Int32.ofInt day) (Int32.ofNat k) (Int32.ofInt e.1.1) ∧ rl_u g Y1 L1 ∧ L1.length ≤ 15 ∧ L1 = y_foldi L (if e.1.1 = 1 ∧ 86400 ≤ yRg (g 541 1).toInt (av_t (g 541) t) (av_c (g 541) t) e.1 e.2 (t : Int) (day - 1) then [(yRg (g 541 1).toInt (av_t (g 541) t) (av_c (g 541) t) e.1 e.2 (t : Int) (day - 1) - 86400, (k : Int))] else []) := by
    unfold fn_212_7b
    rw [show (2 : Int32).toNatClampNeg = 2 from rfl, if_neg k1, e203, zz_toN (by omega), yh]
    rcases h0 with z | z
    · refine ⟨Y, L, ?_, h, by omega, by rw [if_neg (by omega)]; rfl⟩
      rw [z, if_pos (by decide)]
      unfold fn_212_62 fn_212_63
      rw [if_pos (c := (-1 : Int32) < 86400) (by decide)]
    · rw [z, if_neg (fun q => q rfl)]
      obtain ⟨Z, v, a1, a2, a3, a4⟩ := rl_half (day := day - 1) W ht h hk hm hr (Or.inr z) h1 h2 h3 (by omega)
      rw [z] at a4
      have ed : Int32.ofInt day - 1 = Int32.ofInt (day - 1) := yi_sub day 1
      have o1 : (Int32.ofInt 1 : Int32) = 1 := rfl
      rw [o1] at a4 ⊢
      unfold fn_212_47 fn_212_62 fn_212_59
      rw [ed]
      have em : (if (fn_194 Y (Int32.ofNat t) (Int32.ofInt (day - 1)) 1).1 = 0 then fn_212_63 (fn_194 Y (Int32.ofNat t) (Int32.ofInt (day - 1)) 1).2 (Int32.ofNat t) (Int32.ofInt day) (Int32.ofNat k) 1 (-1) else fn_212_63 (fn_213 (fn_194 Y (Int32.ofNat t) (Int32.ofInt (day - 1)) 1).2 (Int32.ofNat t) (Int32.ofInt (day - 1)) (Int32.ofNat k)).2 (Int32.ofNat t) (Int32.ofInt day) (Int32.ofNat k) 1 (fn_213 (fn_194 Y (Int32.ofNat t) (Int32.ofInt (day - 1)) 1).2 (Int32.ofNat t) (Int32.ofInt (day - 1)) (Int32.ofNat k)).1) = fn_212_63 Z (Int32.ofNat t) (Int32.ofInt day) (Int32.ofNat k) 1 (if v = -2 then -1 else v) := by
        rcases a4 with ⟨c1, c2, c3⟩ | ⟨c1, c2⟩
        · rw [if_pos c1, ← c3, c2, if_pos (c := (-2 : Int32) = -2) rfl]
        · rw [if_neg c1, c2]
      rw [em, ha_1 a2]
      refine ⟨_, _, rfl, ?_, ?_, rfl⟩
      · generalize yRg (g 541 1).toInt (av_t (g 541) t) (av_c (g 541) t) e.1 e.2 (t : Int) (day - 1) = x at a3 ⊢
        rcases a3 with ⟨c, cx⟩ | ⟨c, c2, c3, c4⟩
        · rw [if_pos c, if_neg (by omega)]
          exact a1
        · rw [if_neg c, c2, show Int32.ofInt x - 86400 = Int32.ofInt (x - 86400) from yi_sub x 86400]
          have E : fn_14 (Int32.ofInt (x - 86400)) 0 86399 = 0 ↔ ¬ (0 ≤ x - 86400 ∧ x - 86400 ≤ 86399) := by
            rw [ti_14z, yi_T (by omega)]
            exact Iff.rfl
          by_cases q : 86400 ≤ x
          · rw [if_neg (mt E.mp (by omega)), if_pos ⟨rfl, q⟩, yi_n k]
            exact a1.put (by omega) (by omega) (by omega)
          · rw [if_pos (E.mpr (by omega)), if_neg (by omega)]
            exact a1
      · have := (y_foldi_ok (if e.1.1 = 1 ∧ 86400 ≤ yRg (g 541 1).toInt (av_t (g 541) t) (av_c (g 541) t) e.1 e.2 (t : Int) (day - 1) then [(yRg (g 541 1).toInt (av_t (g 541) t) (av_c (g 541) t) e.1 e.2 (t : Int) (day - 1) - 86400, (k : Int))] else []) L h.1.2.1).2
        rw [z] at this
        rw [this]
        split <;> simp only [List.length_cons, List.length_nil] <;> omega
  obtain ⟨Y1, L1, e1, p1, p2, p3⟩ := key
  obtain ⟨Z, q1, q2⟩ := last Y1 L1 p1 p2
  refine ⟨Z, e1.trans q1, ?_⟩
  unfold y_pc
  rw [y_foldi_app, ← p3]
  exact q2
/-- all rings of a day: what the model lays -/
theorem rl_all {lst : List (yBell × List fl_T)} (W : wd_g g) (ht : (t : Int) < (g 541 0).toInt) (B : yBr (g 541) lst) (hd : 0 ≤ day ∧ day ≤ 36100) : ∀ (rest : List (yBell × List fl_T)) (k : Nat) (Y : aa_G) (L : List (Int × Int)), lst.drop k = rest → k ≤ lst.length → rl_u g Y L → L.length ≤ 2 * k → rl_u g (fn_212_7 Y (Int32.ofNat t) (Int32.ofInt day) (Int32.ofNat k)) (y_foldi L (y_gat (g 541 1).toInt (av_t (g 541) t) (av_c (g 541) t) (t : Int) day k rest))
  | [], k, Y, L, hr, hk, h, hl => by
    have hkl : k = lst.length := by
      have := List.drop_eq_nil_iff.mp hr
      omega
    have b1 := B.1
    have b2 := B.2.1
    have e : fn_212_7 Y (Int32.ofNat t) (Int32.ofInt day) (Int32.ofNat k) = Y := by
      unfold fn_212_7
      refine lp_r ?_
      dsimp only
      unfold fn_212_7b
      rw [show (2 : Int32).toNatClampNeg = 2 from rfl, if_pos (aa_le32.mpr (by rw [h.1.2.2.2, zz_ofN (by omega)]; omega))]
    rw [e]
    exact h
  | e :: rest, k, Y, L, hr, hk, h, hl => by
    have b1 := B.1
    have b2 := B.2.1
    have ek : lst[k]? = some e := by
      rw [← List.head?_drop, hr]
      rfl
    have hkl := (List.getElem?_eq_some_iff.mp ek).1
    obtain ⟨⟨c0, cs, m1, m2⟩, m3, m4, m5, m6, m7⟩ := B.2.2 k e ek
    obtain ⟨Z, z1, z2⟩ := rl_bell (day := day) (k := k) (e := e) W ht h (by omega) (by omega) (by omega) m1 m2 m4 m5 m6 m7 hd
    have e9 : fn_212_7 Y (Int32.ofNat t) (Int32.ofInt day) (Int32.ofNat k) = fn_212_7 Z (Int32.ofNat t) (Int32.ofInt day) (Int32.ofNat (k + 1)) := by
      unfold fn_212_7
      refine lp_l ?_
      exact z1
    have hl2 := (y_foldi_ok (y_pc (g 541 1).toInt (av_t (g 541) t) (av_c (g 541) t) (t : Int) day k e) L h.1.2.1).2
    have hpc : (y_pc (g 541 1).toInt (av_t (g 541) t) (av_c (g 541) t) (t : Int) day k e).length ≤ 2 := by
      unfold y_pc
      rw [List.length_append]
      split <;> split <;> simp only [List.length_cons, List.length_nil] <;> omega
    have ih := rl_all W ht B hd rest (k + 1) Z _ (by rw [← List.drop_drop, hr]; rfl) (by omega) z2 (by omega)
    rw [e9]
    have eg : y_gat (g 541 1).toInt (av_t (g 541) t) (av_c (g 541) t) (t : Int) day k (e :: rest) = y_pc (g 541 1).toInt (av_t (g 541) t) (av_c (g 541) t) (t : Int) day k e ++ y_gat (g 541 1).toInt (av_t (g 541) t) (av_c (g 541) t) (t : Int) day (k + 1) rest := rfl
    rw [eg, y_foldi_app]
    exact ih
theorem rl_layu {lst : List (yBell × List fl_T)} (W : wd_g g) (ht : (t : Int) < (g 541 0).toInt) (B : yBr (g 541) lst) (hd : 0 ≤ day ∧ day ≤ 36100) : rl_u g (fn_212 g (Int32.ofNat t) (Int32.ofInt day)) (yRq (g 541) t lst day) := by
  unfold fn_212
  have hm : rl_m (zz_w g 540 26 0) [] := by
    refine ⟨?_, fun i z ez => ?_, fun z hz => ?_⟩
    · rw [aa_w_at]
      rfl
    · rw [List.getElem?_nil] at ez
      exact nomatch ez
    · exact nomatch hz
  have h0 : rl_u g (zz_w g 540 26 0) [] := ⟨⟨hm, List.Pairwise.nil, wd_of W fun a j z => aa_w_ne _ _ (by omega), funext fun j => aa_w_ne _ _ (by omega)⟩, fun a j q => aa_w_ne _ _ (by omega)⟩
  exact rl_all W ht B hd lst 0 _ [] rfl (Nat.zero_le _) h0 (Nat.zero_le _)
theorem rl_lay2 {lst : List (yBell × List fl_T)} (W : wd_g g) (ht : (t : Int) < (g 541 0).toInt) (B : yBr (g 541) lst) (hd : 0 ≤ day ∧ day ≤ 36100) {Y : aa_G} (WY : wd_g Y) (e : Y 541 = g 541) : rl_w g (fn_212 Y (Int32.ofNat t) (Int32.ofInt day)) (yRq (g 541) t lst day) := by
  have h := (rl_layu (g := Y) (t := t) (lst := lst) (day := day) WY (by rw [e]; exact ht) (by rw [e]; exact B) hd).1
  rw [e] at h
  exact ⟨h.1, h.2.1, h.2.2.1, h.2.2.2.trans e⟩
theorem rl_lay {lst : List (yBell × List fl_T)} (W : wd_g g) (ht : (t : Int) < (g 541 0).toInt) (B : yBr (g 541) lst) (hd : 0 ≤ day ∧ day ≤ 35999) {Y : aa_G} (WY : wd_g Y) (e : Y 541 = g 541) : rl_w g (fn_212 Y (Int32.ofNat t) (Int32.ofInt day)) (yRq (g 541) t lst day) := rl_lay2 W ht B (by omega) WY e
end YL79
