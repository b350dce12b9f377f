section
/-! TABLE: both sides say the same -/
noncomputable def sp_11 (T : Nat → Int32) (a b c : Int32) : Int := if ¬ (0 ≤ a.toInt ∧ a.toInt < (T 0).toInt) ∨ ¬ (0 ≤ b.toInt ∧ b.toInt ≤ 35999) ∨ ¬ (0 ≤ c.toInt ∧ c.toInt ≤ 4) then -1 else
  if c.toInt = 4 then pv_t T a.toInt.toNat (b.toInt % 360) else
  match hv_t T a.toInt.toNat b.toInt (if c.toInt = 3 then 1 else 0) with
  | none => -2
  | some (u, l) => if c.toInt = 0 then u else if c.toInt = 1 then u + l else l
theorem ck_76 {g : aa_G} (W : wd_g g) (a b c : Int32) : (fn_76 g a b c).1.toInt = sp_11 (g 541) a b c := by
  unfold fn_76 sp_11
  rcases ct_at W a with ⟨t, ht, rfl, ht2, e1, -⟩ | ⟨n1, e1, -⟩
  · rw [e1]
    dsimp only
    by_cases zb : fn_77 b = 0
    · rw [if_pos zb, if_pos (.inr (.inl (ti_77z.mp zb)))]
      rfl
    · have hb := ti_77n.mp zb
      rw [if_neg zb]
      by_cases zc : fn_14 c 0 4 ≠ 0
      · have hc : 0 ≤ c.toInt ∧ c.toInt ≤ 4 := ti_14n.mp zc
        have hn : ¬ (¬ (0 ≤ (Int32.ofNat t).toInt ∧ (Int32.ofNat t).toInt < (g 541 0).toInt) ∨ ¬ (0 ≤ b.toInt ∧ b.toInt ≤ 35999) ∨ ¬ (0 ≤ c.toInt ∧ c.toInt ≤ 4)) := by
          rw [zz_ofN (by omega)]
          omega
        rw [if_pos zc, if_neg hn, zz_ofN (by omega), show ((t : Int).toNat) = t by omega]
        have key : ∀ (h : Int32), (h = 0 ∨ h = 1) → (h = 0 ∨ c.toInt = 3) → (h.toInt = if c.toInt = 3 then 1 else 0) → (fn_76_53 (fn_78 g 461 (some (5 * t + 14)) b h) c).1.toInt = if c.toInt = 4 then pv_t (g 541) t (b.toInt % 360) else match hv_t (g 541) t b.toInt (if c.toInt = 3 then 1 else 0) with
            | none => -2
            | some (u, l) => if c.toInt = 0 then u else if c.toInt = 1 then u + l else l := by
          intro h hh h3 hv
          obtain ⟨⟨-, -, -, k4⟩, k5⟩ := ck_look (g := g) (P := 461) (d := b) W ht2 (by omega) hh
          rw [hv] at k4
          generalize hG : fn_78 g 461 (some (5 * t + 14)) b h = G at k4 k5
          unfold fn_76_53
          by_cases c4 : c = 4
          · subst c4
            have h0 : h = 0 := h3.resolve_right (by decide)
            rw [if_neg (c := (4 : Int32) ≠ 4) (by decide), if_pos (c := (4 : Int32).toInt = 4) rfl]
            exact k5 hb.1 hb.2 h0
          · have c4' : ¬ c.toInt = 4 := fun e => c4 (ti_eq.mpr e)
            rw [if_pos (c := c ≠ 4) c4, if_neg c4']
            cases hq : hv_t (g 541) t b.toInt (if c.toInt = 3 then 1 else 0) with
            | none =>
              rw [hq] at k4
              rw [if_neg (c := G 461 0 ≠ 0) (fun z => z k4.1)]
              rfl
            | some r =>
              obtain ⟨u, l⟩ := r
              rw [hq] at k4
              obtain ⟨k41, k42, k43⟩ := k4
              obtain ⟨v1, v2, v3, v4, v5⟩ := hv_b W ht2 hq
              rw [if_pos (c := G 461 0 ≠ 0) (by rw [k41]; decide)]
              by_cases c0 : c = 0
              · subst c0
                rw [if_neg (c := (0 : Int32) ≠ 0) (by decide)]
                exact k42
              · have c0' : ¬ c.toInt = 0 := fun e => c0 (ti_eq.mpr e)
                rw [if_pos (c := c ≠ 0) c0]
                dsimp only
                rw [if_neg c0']
                by_cases c1 : c = 1
                · subst c1
                  have v4 := v4 (by decide)
                  rw [if_neg (c := (1 : Int32) ≠ 1) (by decide), if_pos (c := (1 : Int32).toInt = 1) rfl]
                  show (G 461 3 + G 461 4).toInt = u + l
                  rw [aa_add32 (by omega) (by omega), k42, k43]
                · have c1' : ¬ c.toInt = 1 := fun e => c1 (ti_eq.mpr e)
                  rw [if_pos (c := c ≠ 1) c1, if_neg c1']
                  exact k43
        by_cases c3 : c = 3
        · rw [if_neg (c := c ≠ 3) (fun z => z c3)]
          exact key 1 (.inr rfl) (.inr (by rw [c3]; rfl)) (by rw [c3]; rfl)
        · rw [if_pos (c := c ≠ 3) c3]
          have c3' : ¬ c.toInt = 3 := fun e => c3 (ti_eq.mpr e)
          exact key 0 (.inl rfl) (.inl rfl) (by rw [if_neg c3']; rfl)
      · rw [if_neg zc, if_pos (.inr (.inr (fun h => zc (ti_14n.mpr h))))]
        rfl
  · rw [e1, if_pos (.inl n1)]
    rfl
theorem mk_190 {g : aa_G} (W : wd_g g) (a b c : Int32) : (fn_190 g a b c).1.toInt = sp_11 (g 541) a b c := by
  unfold fn_190 sp_11
  rcases ct_at W a with ⟨t, ht, rfl, ht2, -, e1⟩ | ⟨n1, -, e1⟩
  · by_cases hb : 0 ≤ b.toInt ∧ b.toInt ≤ 35999
    · rw [if_neg (c := fn_191 g (Int32.ofNat t) b = 0) (fun z => (ti_191.mp z).elim (fun y => by rw [e1] at y; exact absurd y (by decide)) (fun y => y hb))]
      by_cases zc : fn_154 c 0 4 ≠ 0
      · have hc : 0 ≤ c.toInt ∧ c.toInt ≤ 4 := ti_154n.mp zc
        have hn : ¬ (¬ (0 ≤ (Int32.ofNat t).toInt ∧ (Int32.ofNat t).toInt < (g 541 0).toInt) ∨ ¬ (0 ≤ b.toInt ∧ b.toInt ≤ 35999) ∨ ¬ (0 ≤ c.toInt ∧ c.toInt ≤ 4)) := by
          rw [zz_ofN (by omega)]
          omega
        rw [if_pos zc, if_neg hn, zz_ofN (by omega), show ((t : Int).toNat) = t by omega]
        by_cases c3 : c = 3
        · subst c3
          rw [if_neg (c := (3 : Int32) ≠ 3) (by decide), if_neg (c := (3 : Int32).toInt = 4) (by decide), if_pos (c := (3 : Int32).toInt = 3) rfl]
          generalize hg : fn_194 g (Int32.ofNat t) b 1 = G
          obtain ⟨v, g'⟩ := G
          obtain ⟨-, k⟩ := mk_half W ht2 (.inr rfl) hg
          unfold fn_190_32
          rw [show (1 : Int32).toInt = 1 from rfl] at k
          cases hq : hv_t (g 541) t b.toInt 1 with
          | none =>
            rw [hq] at k
            dsimp only at k ⊢
            rw [k, if_pos rfl]
            rfl
          | some r =>
            obtain ⟨u, l⟩ := r
            rw [hq] at k
            dsimp only at k ⊢
            rw [k.1, if_neg (c := (1 : Int32) = 0) (by decide), if_neg (c := (3 : Int32).toInt = 0) (by decide), if_neg (c := (3 : Int32).toInt = 1) (by decide)]
            exact k.2.2
        · rw [if_pos (c := c ≠ 3) c3]
          have c3' : ¬ c.toInt = 3 := fun e => c3 (ti_eq.mpr e)
          rw [if_neg c3']
          generalize hg : fn_195 g (Int32.ofNat t) b = G
          obtain ⟨v, g'⟩ := G
          obtain ⟨-, kp, k⟩ := mk_lay W ht2 hb hg
          unfold fn_190_51
          dsimp only
          by_cases c4 : c = 4
          · subst c4
            rw [if_neg (c := (4 : Int32) ≠ 4) (by decide), if_pos (c := (4 : Int32).toInt = 4) rfl]
            cases hq : hv_t (g 541) t b.toInt 0 with
            | none =>
              rw [hq] at k
              dsimp only at k
              rw [k, if_pos rfl]
              exact kp
            | some r =>
              rw [hq] at k
              dsimp only at k
              rw [k.1, if_neg (c := (1 : Int32) = 0) (by decide), hv_pv hq]
              rfl
          · have c4' : ¬ c.toInt = 4 := fun e => c4 (ti_eq.mpr e)
            rw [if_pos (c := c ≠ 4) c4, if_neg c4']
            cases hq : hv_t (g 541) t b.toInt 0 with
            | none =>
              rw [hq] at k
              dsimp only at k ⊢
              rw [k, if_neg (c := (0 : Int32) ≠ 0) (by decide)]
              rfl
            | some r =>
              obtain ⟨u, l⟩ := r
              rw [hq] at k
              obtain ⟨v1, v2, v3, v4, v5⟩ := hv_b W ht2 hq
              have v4 := v4 (by decide)
              dsimp only at k ⊢
              obtain ⟨k1, k2, k3⟩ := k
              rw [k1, if_pos (c := (1 : Int32) ≠ 0) (by decide)]
              by_cases c0 : c = 0
              · subst c0
                rw [if_neg (c := (0 : Int32) ≠ 0) (by decide), if_pos (c := (0 : Int32).toInt = 0) rfl]
                exact k2
              · have c0' : ¬ c.toInt = 0 := fun e => c0 (ti_eq.mpr e)
                rw [if_pos (c := c ≠ 0) c0, if_neg c0']
                by_cases c1 : c = 1
                · subst c1
                  rw [if_neg (c := (1 : Int32) ≠ 1) (by decide), if_pos (c := (1 : Int32).toInt = 1) rfl]
                  exact k3
                · have c1' : ¬ c.toInt = 1 := fun e => c1 (ti_eq.mpr e)
                  rw [if_pos (c := c ≠ 1) c1, if_neg c1']
                  show (g' 540 15 - g' 540 14).toInt = l
                  rw [aa_sub32 (by omega) (by omega)]
                  omega
      · rw [if_neg zc, if_pos (.inr (.inr (fun h => zc (ti_154n.mpr h))))]
        rfl
    · rw [if_pos (c := fn_191 g (Int32.ofNat t) b = 0) (ti_191.mpr (.inr hb)), if_pos (.inr (.inl hb))]
      rfl
  · rw [if_pos (c := fn_191 g a b = 0) (ti_191.mpr (.inl e1)), if_pos (.inl n1)]
    rfl
theorem lq_76 {g : aa_G} {a0 a1 a2 : Int32} (hi : aa_inv g) (hφ : aa_Phi g) (hR : lr_R g) : lq_ok true 76 190 [.int a0, .int a1, .int a2] g :=
  lq_ask (y := fn_190 (fn_76 g a0 a1 a2).2 a0 a1 a2) hi hφ hR (ko_fw (ko_76 hi hφ) fun _ _ _ r => dn_76 r) (fun i1 p1 => ko_fw (ko_190 i1 p1) fun _ _ _ r => dn_190 r) (by decide +kernel) (by decide +kernel) (by decide +kernel) (by decide +kernel) (by decide +kernel) (by decide +kernel) fun W W2 e => ti_eq.mpr (by rw [ck_76 W, mk_190 W2, e])
end
section
/-! WHEN: which half of which day; TURN: both sides say the same -/
def wk_r (d h : Int) : Option (Int × Int) → Option (Int × Int × Int × Int)
  | none => none
  | some (b, l) => some (d, h, b, l)
def wt_T (T : Nat → Int32) (t : Nat) (d s : Int) : Option (Int × Int × Int × Int) := match hv_t T t d 0 with
  | none => none
  | some (b, l) => if s < b then wk_r (d - 1) 1 (hv_t T t (d - 1) 1) else if s < b + l then some (d, 0, b, l) else wk_r d 1 (hv_t T t d 1)
theorem wt_b {g : aa_G} {t : Nat} (W : wd_g g) (ht : (t : Int) < (g 541 0).toInt) {d s d' h' b l : Int} (e : wt_T (g 541) t d s = some (d', h', b, l)) : (d' = d ∨ d' = d - 1) ∧ (h' = 0 ∨ h' = 1) ∧ hv_t (g 541) t d' h' = some (b, l) ∧ 0 ≤ b ∧ b ≤ 86399 ∧ 1 ≤ l ∧ l ≤ 172798 ∧ (d' = d → h' = 0 → b ≤ s) := by
  unfold wt_T at e
  cases h0 : hv_t (g 541) t d 0 with
  | none => rw [h0] at e; cases e
  | some r =>
    obtain ⟨b0, l0⟩ := r
    obtain ⟨v1, v2, v3, v4, v5⟩ := hv_b W ht h0
    have v4 := v4 (by decide)
    rw [h0] at e
    dsimp only at e
    by_cases z1 : s < b0
    · rw [if_pos z1] at e
      cases h1 : hv_t (g 541) t (d - 1) 1 with
      | none => rw [h1] at e; exact absurd e (by unfold wk_r; exact fun z => by cases z)
      | some r =>
        obtain ⟨b1, l1⟩ := r
        obtain ⟨w1, w2, w3, w4, w5⟩ := hv_b W ht h1
        have w5 := w5 rfl
        rw [h1] at e
        unfold wk_r at e
        cases e
        exact ⟨.inr rfl, .inr rfl, h1, w1, w2, w3, by omega, fun _ z => absurd z (by decide)⟩
    · rw [if_neg z1] at e
      by_cases z2 : s < b0 + l0
      · rw [if_pos z2] at e
        cases e
        exact ⟨.inl rfl, .inl rfl, h0, v1, v2, v3, by omega, fun _ _ => by omega⟩
      · rw [if_neg z2] at e
        cases h1 : hv_t (g 541) t d 1 with
        | none => rw [h1] at e; exact absurd e (by unfold wk_r; exact fun z => by cases z)
        | some r =>
          obtain ⟨b1, l1⟩ := r
          obtain ⟨w1, w2, w3, w4, w5⟩ := hv_b W ht h1
          have w5 := w5 rfl
          rw [h1] at e
          unfold wk_r at e
          cases e
          exact ⟨.inl rfl, .inr rfl, h1, w1, w2, w3, by omega, fun _ z => absurd z (by decide)⟩
def wk_c (g g' : aa_G) (P : Nat) (v : Int32) : Option (Int × Int × Int × Int) → Prop
  | none => v = 0 ∧ g' P 0 = 0
  | some (d', h', b, l) => v = 1 ∧ g' P 0 = 1 ∧ (g' P 1).toInt = d' ∧ (g' P 2).toInt = h' ∧ (g' P 3).toInt = b ∧ (g' P 4).toInt = l
theorem wk_of {g g' : aa_G} {P : Nat} {d h : Int32} {r : Option (Int × Int)} (k : lk_ok g g' P d h r) : wk_c g g' P (g' P 0) (wk_r d.toInt h.toInt r) := by
  obtain ⟨-, k1, k2, k3⟩ := k
  cases r with
  | none => exact ⟨k3.1, k3.1⟩
  | some r =>
    obtain ⟨b, l⟩ := r
    exact ⟨k3.1, k3.1, by rw [k1], by rw [k2], k3.2.1, k3.2.2⟩
theorem ck_86 {g : aa_G} {P t : Nat} {d s : Int32} (W : wd_g g) (ht : (t : Int) < (g 541 0).toInt) (hP : 461 ≤ P) (hP2 : P < 540) (hd : 0 ≤ d.toInt ∧ d.toInt ≤ 35999) : wk_c g (fn_86 g P (5 * t + 14) d s).2 P (fn_86 g P (5 * t + 14) d s).1 (wt_T (g 541) t d.toInt s.toInt) ∧ ∀ k j, k ≠ P → (fn_86 g P (5 * t + 14) d s).2 k j = g k j := by
  have k := (ck_look (g := g) (P := P) (d := d) (h := 0) W ht hP (.inl rfl)).1
  rw [show (0 : Int32).toInt = 0 from rfl] at k
  have kw := wk_of k
  have kf := k.1
  unfold fn_86 wt_T
  generalize hG : fn_78 g P (some (5 * t + 14)) d 0 = G at k kw kf
  have f1 : ∀ k j, k ≠ P → G k j = g k j := fun k j z => kf k j (by omega)
  have W2 : wd_g G := wd_of W (fun k j z => f1 k j (by omega))
  have e541 : G 541 = g 541 := funext fun j => f1 541 j (by omega)
  have again : ∀ d2 : Int32, wk_c g (fn_86_62 (fn_78 G P (some (5 * t + 14)) d2 1) P).2 P (fn_86_62 (fn_78 G P (some (5 * t + 14)) d2 1) P).1 (wk_r d2.toInt 1 (hv_t (g 541) t d2.toInt 1)) ∧ ∀ k j, k ≠ P → (fn_86_62 (fn_78 G P (some (5 * t + 14)) d2 1) P).2 k j = g k j := by
    intro d2
    have k2 := (ck_look (g := G) (P := P) (d := d2) (h := 1) W2 (by rw [e541]; exact ht) hP (.inr rfl)).1
    rw [e541, show (1 : Int32).toInt = 1 from rfl] at k2
    have kw2 := wk_of k2
    exact ⟨kw2, fun k j z => (k2.1 k j (by omega)).trans (f1 k j z)⟩
  cases hq : hv_t (g 541) t d.toInt 0 with
  | none =>
    rw [hq] at kw
    have z0 : G P 0 = 0 := kw.2
    unfold fn_86_7 fn_86_34
    rw [if_pos z0, if_pos z0]
    exact ⟨kw, f1⟩
  | some r =>
    obtain ⟨b, l⟩ := r
    rw [hq] at kw
    obtain ⟨v1, v2, v3, v4, v5⟩ := hv_b W ht hq
    have v4 := v4 (by decide)
    obtain ⟨k0, -, k1, k2, k3, k4⟩ := kw
    have z0 : ¬ G P 0 = 0 := by rw [k0]; decide
    dsimp only
    unfold fn_86_7
    rw [if_neg z0]
    by_cases z1 : G P 3 ≤ s
    · have z1' := aa_le32.mp z1
      rw [if_pos z1, if_neg (c := s.toInt < b) (by omega)]
      unfold fn_86_34
      rw [if_neg z0]
      have ea : (G P 3 + G P 4).toInt = b + l := by rw [aa_add32 (by omega) (by omega), k3, k4]
      by_cases z2 : s < G P 3 + G P 4
      · have z2' := Int32.lt_iff_toInt_lt.mp z2
        rw [if_pos z2, if_pos (c := s.toInt < b + l) (by omega)]
        exact ⟨⟨k0, k0, k1, k2, k3, k4⟩, f1⟩
      · have z2' := mt Int32.lt_iff_toInt_lt.mpr z2
        rw [if_neg z2, if_neg (c := s.toInt < b + l) (by omega)]
        exact again d
    · have z1' := mt aa_le32.mpr z1
      rw [if_neg z1, if_pos (c := s.toInt < b) (by omega)]
      have ed : (d - 1).toInt = d.toInt - 1 := aa_sub32 (by rw [show (1 : Int32).toInt = 1 from rfl]; omega) (by rw [show (1 : Int32).toInt = 1 from rfl]; omega)
      rw [← ed]
      exact again (d - 1)
def wk_m (g' : aa_G) (d s : Int) (v : Int32) : Option (Int × Int × Int × Int) → Prop
  | none => v = 0
  | some (d', h', b, l) => v = 1 ∧ (g' 540 20).toInt = d' ∧ (g' 540 19).toInt = h' ∧ (g' 540 17).toInt = b ∧ (g' 540 18).toInt = l ∧ (g' 540 21).toInt = s + 86400 * (d - d') - b
theorem mk_200 {g : aa_G} {t : Nat} {d s : Int32} (W : wd_g g) (ht : (t : Int) < (g 541 0).toInt) (hd : 0 ≤ d.toInt ∧ d.toInt ≤ 35999) (hs : 0 ≤ s.toInt ∧ s.toInt ≤ 86399) : wk_m (fn_200 g (Int32.ofNat t) d s).2 d.toInt s.toInt (fn_200 g (Int32.ofNat t) d s).1 (wt_T (g 541) t d.toInt s.toInt) ∧ ∀ k j, ¬ (k = 540 ∧ 13 ≤ j ∧ j ≤ 21 ∧ j ≠ 16) → (fn_200 g (Int32.ofNat t) d s).2 k j = g k j := by
  unfold fn_200
  rw [if_neg (c := fn_193 d = 0) (fun z => ti_193z.mp z hd)]
  generalize hg : fn_195 g (Int32.ofNat t) d = G
  obtain ⟨v, G⟩ := G
  obtain ⟨f1, -, k⟩ := mk_lay W ht hd hg
  have W2 : wd_g G := wd_of W (fun k j z => f1 k j (by omega))
  have e541 : G 541 = g 541 := funext fun j => f1 541 j (by omega)
  dsimp only
  have again : ∀ (d2 h : Int32), (h = 0 ∨ h = 1) → (d2.toInt = d.toInt ∨ d2.toInt = d.toInt - 1) → wk_m (fn_200_59 (zz_w G 540 20 d2) (Int32.ofNat t) d s h).2 d.toInt s.toInt (fn_200_59 (zz_w G 540 20 d2) (Int32.ofNat t) d s h).1 (wk_r d2.toInt h.toInt (hv_t (g 541) t d2.toInt h.toInt)) ∧ ∀ k j, ¬ (k = 540 ∧ 13 ≤ j ∧ j ≤ 21 ∧ j ≠ 16) → (fn_200_59 (zz_w G 540 20 d2) (Int32.ofNat t) d s h).2 k j = g k j := by
    intro d2 h hh hd2
    unfold fn_200_59
    generalize hX : zz_w (zz_w G 540 20 d2) 540 19 h = X
    have x20 : zz_w G 540 20 d2 540 20 = d2 := aa_w_at _ _ _ _
    have X20 : X 540 20 = d2 := by rw [← hX, aa_w_ne _ _ (by omega)]; exact x20
    have X19 : X 540 19 = h := by rw [← hX, aa_w_at]
    have fX : ∀ k j, ¬ (k = 540 ∧ 13 ≤ j ∧ j ≤ 21 ∧ j ≠ 16) → X k j = g k j := fun k j z => by
      rw [← hX, aa_w_ne _ _ (by omega), aa_w_ne _ _ (by omega)]
      exact f1 k j (by omega)
    have W3 : wd_g X := wd_of W (fun k j z => fX k j (by omega))
    have e3 : X 541 = g 541 := funext fun j => fX 541 j (by omega)
    rw [x20]
    generalize hg2 : fn_194 X (Int32.ofNat t) d2 h = Y
    obtain ⟨u, Y⟩ := Y
    obtain ⟨f2, k2⟩ := mk_half W3 (by rw [e3]; exact ht) hh hg2
    rw [e3] at k2
    unfold fn_200_75
    dsimp only
    cases hq : hv_t (g 541) t d2.toInt h.toInt with
    | none =>
      rw [hq] at k2
      have k2 : u = 0 := k2
      rw [if_neg (c := u ≠ 0) (fun z => z k2)]
      exact ⟨rfl, fun k j z => (f2 k j (by omega)).trans (fX k j z)⟩
    | some r =>
      obtain ⟨b, l⟩ := r
      rw [hq] at k2
      obtain ⟨k21, k22, k23⟩ := k2
      obtain ⟨v1, v2, v3, v4, v5⟩ := hv_b W ht hq
      rw [if_pos (c := u ≠ 0) (by rw [k21]; decide)]
      have y20 : Y 540 20 = d2 := (f2 540 20 (by omega)).trans X20
      have y19 : Y 540 19 = h := (f2 540 19 (by omega)).trans X19
      have E1 : (d - d2).toInt = d.toInt - d2.toInt := aa_sub32 (by omega) (by omega)
      have E2 : (86400 * (d - d2)).toInt = 86400 * (d.toInt - d2.toInt) := by
        rw [ti_mul (by rw [E1, show (86400 : Int32).toInt = 86400 from rfl]; omega) (by rw [E1, show (86400 : Int32).toInt = 86400 from rfl]; omega), E1]
        rfl
      have E3 : (s + 86400 * (d - d2)).toInt = s.toInt + 86400 * (d.toInt - d2.toInt) := by rw [aa_add32 (by omega) (by omega), E2]
      have E4 : (s + 86400 * (d - d2) - Y 540 17).toInt = s.toInt + 86400 * (d.toInt - d2.toInt) - b := by rw [aa_sub32 (by omega) (by omega), E3, k22]
      refine ⟨⟨rfl, ?_, ?_, ?_, ?_, ?_⟩, fun k j z => ?_⟩
      · show (zz_w Y 540 21 (s + 86400 * (d - Y 540 20) - Y 540 17) 540 20).toInt = _
        rw [aa_w_ne _ _ (by omega), y20]
      · show (zz_w Y 540 21 (s + 86400 * (d - Y 540 20) - Y 540 17) 540 19).toInt = _
        rw [aa_w_ne _ _ (by omega), y19]
      · show (zz_w Y 540 21 (s + 86400 * (d - Y 540 20) - Y 540 17) 540 17).toInt = _
        rw [aa_w_ne _ _ (by omega), k22]
      · show (zz_w Y 540 21 (s + 86400 * (d - Y 540 20) - Y 540 17) 540 18).toInt = _
        rw [aa_w_ne _ _ (by omega), k23]
      · show (zz_w Y 540 21 (s + 86400 * (d - Y 540 20) - Y 540 17) 540 21).toInt = _
        rw [aa_w_at, y20, E4]
      · show zz_w Y 540 21 (s + 86400 * (d - Y 540 20) - Y 540 17) k j = _
        rw [aa_w_ne _ _ (by omega), f2 k j (by omega), fX k j z]
  unfold wt_T
  unfold fn_200_13
  cases hq : hv_t (g 541) t d.toInt 0 with
  | none =>
    rw [hq] at k
    have k : v = 0 := k
    rw [if_neg (c := v ≠ 0) (fun z => z k)]
    exact ⟨rfl, fun k j z => f1 k j (by omega)⟩
  | some r =>
    obtain ⟨b, l⟩ := r
    rw [hq] at k
    obtain ⟨k1, k2, k3⟩ := k
    obtain ⟨v1, v2, v3, v4, v5⟩ := hv_b W ht hq
    have v4 := v4 (by decide)
    rw [if_pos (c := v ≠ 0) (by rw [k1]; decide)]
    dsimp only
    unfold fn_200_34 fn_200_58
    by_cases z1 : G 540 14 ≤ s
    · have z1' := aa_le32.mp z1
      rw [if_pos z1, if_neg (c := s < G 540 14) (fun z => by have := Int32.lt_iff_toInt_lt.mp z; omega), if_neg (c := s.toInt < b) (by omega)]
      by_cases z2 : G 540 15 ≤ s
      · have z2' := aa_le32.mp z2
        rw [if_pos z2, if_neg (c := s.toInt < b + l) (by omega)]
        exact again d 1 (.inr rfl) (.inl rfl)
      · have z2' := mt aa_le32.mpr z2
        rw [if_neg z2, if_pos (c := s.toInt < b + l) (by omega)]
        have q := again d 0 (.inl rfl) (.inl rfl)
        rw [show (0 : Int32).toInt = 0 from rfl, hq] at q
        exact q
    · have z1' := mt aa_le32.mpr z1
      have ed : (d - 1).toInt = d.toInt - 1 := aa_sub32 (by rw [show (1 : Int32).toInt = 1 from rfl]; omega) (by rw [show (1 : Int32).toInt = 1 from rfl]; omega)
      rw [if_neg z1, if_pos (c := s < G 540 14) (Int32.lt_iff_toInt_lt.mpr (by omega)), if_pos (c := s.toInt < b) (by omega), ← ed]
      exact again (d - 1) 1 (.inr rfl) (.inr ed)
end
section
/-! TURN: both sides say the same -/
theorem of_ti {a : Int32} {n : Int} (h : a.toInt = n) : a = Int32.ofInt n := by rw [← h, Int32.ofInt_toInt]
def sp_x (q e l : Int32) : Int32 := (((e.toInt64 * 12) * q.toInt64) / l.toInt64).toInt32
def sp_k (q d h e l k : Int32) : Int32 := if k.toInt = 0 then d else if k.toInt = 1 then h else if k.toInt = 2 then sp_x q e l / q else if k.toInt = 3 then sp_x q e l - sp_x q e l / q * q else if k.toInt = 4 then sp_x q e l else e
def sp_w (q : Int32) (b c : Int) (k : Int32) : Option (Int × Int × Int × Int) → Int32
  | none => -2
  | some (d', h', u, l) => sp_k q (Int32.ofInt d') (Int32.ofInt h') (Int32.ofInt (c + 86400 * (b - d') - u)) (Int32.ofInt l) k
noncomputable def sp_12 (T : Nat → Int32) (a b c k : Int32) : Int32 := if ¬ (0 ≤ a.toInt ∧ a.toInt < (T 0).toInt) ∨ ¬ (0 ≤ b.toInt ∧ b.toInt ≤ 35999) ∨ ¬ (0 ≤ c.toInt ∧ c.toInt ≤ 86399) ∨ ¬ (0 ≤ k.toInt ∧ k.toInt ≤ 5) then -1 else
  sp_w (T 1) b.toInt c.toInt k (wt_T T a.toInt.toNat b.toInt c.toInt)
theorem ck_85 {g : aa_G} (W : wd_g g) (a b c k : Int32) : (fn_85 g a b c k).1 = sp_12 (g 541) a b c k := by
  unfold fn_85 sp_12
  rcases ct_at W a with ⟨t, ht, rfl, ht2, e1, -⟩ | ⟨n1, e1, -⟩
  · rw [e1]
    dsimp only
    by_cases zb : fn_77 b = 0
    · rw [if_pos zb, if_pos (.inr (.inl (ti_77z.mp zb)))]
    · have hb := ti_77n.mp zb
      rw [if_neg zb]
      by_cases zc : fn_66 c = 0
      · have hc : ¬ (0 ≤ c.toInt ∧ c.toInt ≤ 86399) := ti_14z.mp zc
        rw [if_pos zc, if_pos (.inr (.inr (.inl hc)))]
      · have hc : 0 ≤ c.toInt ∧ c.toInt ≤ 86399 := ti_14n.mp zc
        rw [if_neg zc]
        by_cases zk : fn_14 k 0 5 ≠ 0
        · have hk : 0 ≤ k.toInt ∧ k.toInt ≤ 5 := ti_14n.mp zk
          have hn : ¬ (¬ (0 ≤ (Int32.ofNat t).toInt ∧ (Int32.ofNat t).toInt < (g 541 0).toInt) ∨ ¬ (0 ≤ b.toInt ∧ b.toInt ≤ 35999) ∨ ¬ (0 ≤ c.toInt ∧ c.toInt ≤ 86399) ∨ ¬ (0 ≤ k.toInt ∧ k.toInt ≤ 5)) := by
            rw [zz_ofN (by omega)]
            omega
          rw [if_pos zk, if_neg hn, zz_ofN (by omega), show ((t : Int).toNat) = t by omega]
          obtain ⟨m, f⟩ := ck_86 (P := 461) (d := b) (s := c) W ht2 (by omega) (by omega) hb
          generalize fn_86 g 461 (5 * t + 14) b c = G at m f ⊢
          obtain ⟨v, G⟩ := G
          unfold fn_85_52
          dsimp only at m f ⊢
          cases hq : wt_T (g 541) t b.toInt c.toInt with
          | none =>
            rw [hq] at m
            have m : v = 0 := m.1
            rw [if_neg (c := v ≠ 0) (fun z => z m)]
            rfl
          | some r =>
            obtain ⟨d', h', u, l⟩ := r
            obtain ⟨w1, w2, w3, w4, w5, w6, w7, -⟩ := wt_b W ht2 hq
            rw [hq] at m
            obtain ⟨m1, -, m2, m3, m4, m5⟩ := m
            rw [if_pos (c := v ≠ 0) (by rw [m1]; decide)]
            have q21 : G 2 1 = g 541 1 := (f 2 1 (by omega)).trans W.2.2.2.1
            have hq1 := W.2.1
            have E1 : (b - G 461 1).toInt = b.toInt - d' := by rw [aa_sub32 (by omega) (by omega), m2]
            have E2 : ((b - G 461 1) * 86400).toInt = 86400 * (b.toInt - d') := by
              rw [ti_mul (by rw [E1, show (86400 : Int32).toInt = 86400 from rfl]; omega) (by rw [E1, show (86400 : Int32).toInt = 86400 from rfl]; omega), E1, show (86400 : Int32).toInt = 86400 from rfl]
              omega
            have E3 : (c + (b - G 461 1) * 86400).toInt = c.toInt + 86400 * (b.toInt - d') := by rw [aa_add32 (by omega) (by omega), E2]
            have E4 : fn_87 G 461 b c = Int32.ofInt (c.toInt + 86400 * (b.toInt - d') - u) := of_ti (by
              unfold fn_87
              rw [aa_sub32 (by omega) (by omega), E3, m4])
            have E5 : fn_88 G 461 (fn_87 G 461 b c) (G 2 1) = sp_x (g 541 1) (Int32.ofInt (c.toInt + 86400 * (b.toInt - d') - u)) (Int32.ofInt l) := by
              unfold fn_88 sp_x
              rw [if_neg (c := G 461 4 ≤ 0) (fun z => by have := aa_le32.mp z; rw [show (0 : Int32).toInt = 0 from rfl] at this; omega), E4, q21, of_ti m5]
            have E6 : ∀ x, fn_89 G x = x / g 541 1 := fun x => by
              unfold fn_89
              rw [q21, if_neg (c := g 541 1 ≤ 0) (fun z => by have := aa_le32.mp z; rw [show (0 : Int32).toInt = 0 from rfl] at this; omega)]
            rw [E5, E6, q21, E4, of_ti m2, of_ti m3]
            unfold sp_w sp_k
            dsimp only
            repeat' split
            all_goals rfl
        · rw [if_neg zk, if_pos (.inr (.inr (.inr (fun h => zk (ti_14n.mpr h)))))]
  · rw [e1, if_pos (.inl n1)]
theorem mk_198 {g : aa_G} (W : wd_g g) (a b c k : Int32) : (fn_198 g a b c k).1 = sp_12 (g 541) a b c k := by
  unfold fn_198 sp_12
  rcases ct_at W a with ⟨t, ht, rfl, ht2, -, e1⟩ | ⟨n1, -, e1⟩
  · by_cases hb : 0 ≤ b.toInt ∧ b.toInt ≤ 35999
    · rw [if_neg (c := fn_191 g (Int32.ofNat t) b = 0) (fun z => (ti_191.mp z).elim (fun y => by rw [e1] at y; exact absurd y (by decide)) (fun y => y hb))]
      by_cases zc : fn_199 c = 0
      · have hc : ¬ (0 ≤ c.toInt ∧ c.toInt ≤ 86399) := ti_154z.mp zc
        rw [if_pos zc, if_pos (.inr (.inr (.inl hc)))]
      · have hc : 0 ≤ c.toInt ∧ c.toInt ≤ 86399 := ti_154n.mp zc
        rw [if_neg zc]
        by_cases zk : fn_154 k 0 5 ≠ 0
        · have hk : 0 ≤ k.toInt ∧ k.toInt ≤ 5 := ti_154n.mp zk
          have hn : ¬ (¬ (0 ≤ (Int32.ofNat t).toInt ∧ (Int32.ofNat t).toInt < (g 541 0).toInt) ∨ ¬ (0 ≤ b.toInt ∧ b.toInt ≤ 35999) ∨ ¬ (0 ≤ c.toInt ∧ c.toInt ≤ 86399) ∨ ¬ (0 ≤ k.toInt ∧ k.toInt ≤ 5)) := by
            rw [zz_ofN (by omega)]
            omega
          rw [if_pos zk, if_neg hn, zz_ofN (by omega), show ((t : Int).toNat) = t by omega]
          obtain ⟨m, f⟩ := mk_200 (d := b) (s := c) W ht2 hb hc
          generalize fn_200 g (Int32.ofNat t) b c = G at m f ⊢
          obtain ⟨v, G⟩ := G
          unfold fn_198_35
          dsimp only at m f ⊢
          cases hq : wt_T (g 541) t b.toInt c.toInt with
          | none =>
            rw [hq] at m
            have m : v = 0 := m
            rw [if_pos m]
            rfl
          | some r =>
            obtain ⟨d', h', u, l⟩ := r
            rw [hq] at m
            obtain ⟨m1, m2, m3, m4, m5, m6⟩ := m
            rw [if_neg (c := v = 0) (by rw [m1]; decide)]
            have q : G 541 1 = g 541 1 := f 541 1 (by omega)
            unfold fn_201 fn_202
            rw [show (1 : Int32).toNatClampNeg = 1 from rfl, q, of_ti m6, of_ti m2, of_ti m3, of_ti m5]
            rfl
        · rw [if_neg zk, if_pos (.inr (.inr (.inr (fun h => zk (ti_154n.mpr h)))))]
    · rw [if_pos (c := fn_191 g (Int32.ofNat t) b = 0) (ti_191.mpr (.inr hb)), if_pos (.inr (.inl hb))]
  · rw [if_pos (c := fn_191 g a b = 0) (ti_191.mpr (.inl e1)), if_pos (.inl n1)]
theorem lq_85 {g : aa_G} {a0 a1 a2 a3 : Int32} (hi : aa_inv g) (hφ : aa_Phi g) (hR : lr_R g) : lq_ok true 85 198 [.int a0, .int a1, .int a2, .int a3] g :=
  lq_ask (y := fn_198 (fn_85 g a0 a1 a2 a3).2 a0 a1 a2 a3) hi hφ hR (ko_fw (ko_85 hi hφ) fun _ _ _ r => dn_85 r) (fun i1 p1 => ko_fw (ko_198 i1 p1) fun _ _ _ r => dn_198 r) (by decide +kernel) (by decide +kernel) (by decide +kernel) (by decide +kernel) (by decide +kernel) (by decide +kernel) fun W W2 e => by rw [ck_85 W, mk_198 W2, e]
end
section
/-! both sides say the same (95, 210) -/
def sp_15 (b c k : Int32) : Option (Int × Int) → Int32
  | none => -2
  | some (u, l) => if k = 1 then (if c.toInt < u then b - 1 else b) else if c.toInt < u + l then b else b + 1
noncomputable def sp_95 (T : Nat → Int32) (a b c k : Int32) : Int32 := if ¬ (0 ≤ a.toInt ∧ a.toInt < (T 0).toInt) ∨ ¬ (0 ≤ b.toInt ∧ b.toInt ≤ 35999) ∨ ¬ (0 ≤ c.toInt ∧ c.toInt ≤ 86399) ∨ ¬ (0 ≤ k.toInt ∧ k.toInt ≤ 3) then -1 else
  if k = 0 then b else if k = 3 then (if c < 43200 then b - 1 else b) else sp_15 b c k (hv_t T a.toInt.toNat b.toInt 0)
theorem ck_95 {g : aa_G} (W : wd_g g) (a b c k : Int32) : (fn_95 g a b c k).1 = sp_95 (g 541) a b c k := by
  unfold fn_95 sp_95
  rcases ct_at W a with ⟨t, ht, rfl, ht2, e1, -⟩ | ⟨n1, e1, -⟩
  · rw [e1]
    dsimp only
    by_cases zb : fn_77 b = 0
    · rw [if_pos zb, if_pos (.inr (.inl (ti_77z.mp zb)))]
    · have hb := ti_77n.mp zb
      rw [if_neg zb]
      by_cases zc : fn_66 c = 0
      · have hc : ¬ (0 ≤ c.toInt ∧ c.toInt ≤ 86399) := ti_14z.mp zc
        rw [if_pos zc, if_pos (.inr (.inr (.inl hc)))]
      · have hc : 0 ≤ c.toInt ∧ c.toInt ≤ 86399 := ti_14n.mp zc
        rw [if_neg zc]
        by_cases zk : fn_14 k 0 3 ≠ 0
        · have hk : 0 ≤ k.toInt ∧ k.toInt ≤ 3 := ti_14n.mp zk
          have hn : ¬ (¬ (0 ≤ (Int32.ofNat t).toInt ∧ (Int32.ofNat t).toInt < (g 541 0).toInt) ∨ ¬ (0 ≤ b.toInt ∧ b.toInt ≤ 35999) ∨ ¬ (0 ≤ c.toInt ∧ c.toInt ≤ 86399) ∨ ¬ (0 ≤ k.toInt ∧ k.toInt ≤ 3)) := by
            rw [zz_ofN (by omega)]
            omega
          rw [if_pos zk, if_neg hn, zz_ofN (by omega), show ((t : Int).toNat) = t by omega]
          by_cases k0 : k = 0
          · rw [if_neg (c := k ≠ 0) (fun z => z k0), if_pos k0]
          · rw [if_pos (c := k ≠ 0) k0, if_neg k0]
            by_cases k3 : k = 3
            · rw [if_neg (c := k ≠ 3) (fun z => z k3), if_pos k3]
              split <;> rfl
            · rw [if_pos (c := k ≠ 3) k3, if_neg k3]
              have m := (ck_look (g := g) (P := 461) (d := b) (h := 0) W ht2 (by omega) (.inl rfl)).1
              rw [show (0 : Int32).toInt = 0 from rfl] at m
              obtain ⟨-, -, -, m⟩ := m
              generalize fn_78 g 461 (some (5 * t + 14)) b 0 = G at m ⊢
              unfold fn_95_79 sp_15
              cases hq : hv_t (g 541) t b.toInt 0 with
              | none =>
                rw [hq] at m
                rw [if_neg (c := G 461 0 ≠ 0) (fun z => z m.1)]
              | some r =>
                obtain ⟨u, l⟩ := r
                rw [hq] at m
                obtain ⟨m1, m2, m3⟩ := m
                obtain ⟨v1, v2, v3, v4, v5⟩ := hv_b W ht2 hq
                have v4 := v4 (by decide)
                have E1 : c < G 461 3 ↔ c.toInt < u := by rw [Int32.lt_iff_toInt_lt, m2]
                have E2 : c < G 461 3 + G 461 4 ↔ c.toInt < u + l := by rw [Int32.lt_iff_toInt_lt, aa_add32 (by omega) (by omega), m2, m3]
                rw [if_pos (c := G 461 0 ≠ 0) (by rw [m1]; decide)]
                dsimp only
                by_cases k1 : k = 1
                · rw [if_neg (c := k ≠ 1) (fun z => z k1), if_pos k1]
                  by_cases z : c.toInt < u
                  · rw [if_pos (E1.mpr z), if_pos z]
                  · rw [if_neg (mt E1.mp z), if_neg z]
                · rw [if_pos (c := k ≠ 1) k1, if_neg k1]
                  by_cases z : c.toInt < u + l
                  · rw [if_pos (E2.mpr z), if_pos z]
                  · rw [if_neg (mt E2.mp z), if_neg z]
        · rw [if_neg zk, if_pos (.inr (.inr (.inr (fun h => zk (ti_14n.mpr h)))))]
  · have hn : ¬ (0 ≤ a.toInt ∧ a.toInt < (g 541 0).toInt) ∨ ¬ (0 ≤ b.toInt ∧ b.toInt ≤ 35999) ∨ ¬ (0 ≤ c.toInt ∧ c.toInt ≤ 86399) ∨ ¬ (0 ≤ k.toInt ∧ k.toInt ≤ 3) := .inl n1
    rw [e1, if_pos hn]
theorem mk_210 {g : aa_G} (W : wd_g g) (a b c k : Int32) : (fn_210 g a b c k).1 = sp_95 (g 541) a b c k := by
  unfold fn_210 sp_95
  rcases ct_at W a with ⟨t, ht, rfl, ht2, -, e1⟩ | ⟨n1, -, e1⟩
  · by_cases hb : 0 ≤ b.toInt ∧ b.toInt ≤ 35999
    · rw [if_neg (c := fn_191 g (Int32.ofNat t) b = 0) (fun z => (ti_191.mp z).elim (fun y => by rw [e1] at y; exact absurd y (by decide)) (fun y => y hb))]
      by_cases zc : fn_199 c = 0
      · have hc : ¬ (0 ≤ c.toInt ∧ c.toInt ≤ 86399) := ti_154z.mp zc
        rw [if_pos zc, if_pos (.inr (.inr (.inl hc)))]
      · have hc : 0 ≤ c.toInt ∧ c.toInt ≤ 86399 := ti_154n.mp zc
        rw [if_neg zc]
        by_cases zk : fn_154 k 0 3 ≠ 0
        · have hk : 0 ≤ k.toInt ∧ k.toInt ≤ 3 := ti_154n.mp zk
          have hn : ¬ (¬ (0 ≤ (Int32.ofNat t).toInt ∧ (Int32.ofNat t).toInt < (g 541 0).toInt) ∨ ¬ (0 ≤ b.toInt ∧ b.toInt ≤ 35999) ∨ ¬ (0 ≤ c.toInt ∧ c.toInt ≤ 86399) ∨ ¬ (0 ≤ k.toInt ∧ k.toInt ≤ 3)) := by
            rw [zz_ofN (by omega)]
            omega
          rw [if_pos zk, if_neg hn, zz_ofN (by omega), show ((t : Int).toNat) = t by omega]
          by_cases k0 : k = 0
          · rw [if_neg (c := k ≠ 0) (fun z => z k0), if_pos k0]
          · rw [if_pos (c := k ≠ 0) k0, if_neg k0]
            by_cases k3 : k = 3
            · rw [if_neg (c := k ≠ 3) (fun z => z k3), if_pos k3]
              split <;> rfl
            · rw [if_pos (c := k ≠ 3) k3, if_neg k3]
              generalize hg : fn_195 g (Int32.ofNat t) b = G
              obtain ⟨v, G⟩ := G
              obtain ⟨-, -, m⟩ := mk_lay W ht2 hb hg
              unfold fn_210_61 sp_15
              cases hq : hv_t (g 541) t b.toInt 0 with
              | none =>
                rw [hq] at m
                have m : v = 0 := m
                dsimp only
                rw [if_neg (c := v ≠ 0) (fun z => z m)]
              | some r =>
                obtain ⟨u, l⟩ := r
                rw [hq] at m
                obtain ⟨m1, m2, m3⟩ := m
                have E1 : c < G 540 14 ↔ c.toInt < u := by rw [Int32.lt_iff_toInt_lt, m2]
                have E2 : c < G 540 15 ↔ c.toInt < u + l := by rw [Int32.lt_iff_toInt_lt, m3]
                dsimp only
                rw [if_pos (c := v ≠ 0) (by rw [m1]; decide)]
                by_cases k1 : k = 1
                · rw [if_neg (c := k ≠ 1) (fun z => z k1), if_pos k1]
                  by_cases z : c.toInt < u
                  · rw [if_pos (E1.mpr z), if_pos z]
                  · rw [if_neg (mt E1.mp z), if_neg z]
                · rw [if_pos (c := k ≠ 1) k1, if_neg k1]
                  by_cases z : c.toInt < u + l
                  · rw [if_pos (E2.mpr z), if_pos z]
                  · rw [if_neg (mt E2.mp z), if_neg z]
        · rw [if_neg zk, if_pos (.inr (.inr (.inr (fun h => zk (ti_154n.mpr h)))))]
    · rw [if_pos (c := fn_191 g (Int32.ofNat t) b = 0) (ti_191.mpr (.inr hb)), if_pos (.inr (.inl hb))]
  · rw [if_pos (c := fn_191 g a b = 0) (ti_191.mpr (.inl e1)), if_pos (.inl n1)]
theorem lq_95 {g : aa_G} {a0 a1 a2 a3 : Int32} (hi : aa_inv g) (hφ : aa_Phi g) (hR : lr_R g) : lq_ok true 95 210 [.int a0, .int a1, .int a2, .int a3] g :=
  lq_ask (y := fn_210 (fn_95 g a0 a1 a2 a3).2 a0 a1 a2 a3) hi hφ hR (ko_fw (ko_95 hi hφ) fun _ _ _ r => dn_95 r) (fun i1 p1 => ko_fw (ko_210 i1 p1) fun _ _ _ r => dn_210 r) (by decide +kernel) (by decide +kernel) (by decide +kernel) (by decide +kernel) (by decide +kernel) (by decide +kernel) fun W W2 e => by rw [ck_95 W, mk_210 W2, e]
end
section
/-! LONG NUMBERS -/
theorem l_of {a : Int32} : a.toInt64.toInt = a.toInt := Int32.toInt_toInt64 a
theorem l_bm {x : Int} (h1 : -9223372036854775808 ≤ x) (h2 : x ≤ 9223372036854775807) : x.bmod (2 ^ 64) = x := by
  rw [Int.bmod_eq_of_le (by omega) (by omega)]
theorem l_add {a b : Int64} (h1 : -9223372036854775808 ≤ a.toInt + b.toInt) (h2 : a.toInt + b.toInt ≤ 9223372036854775807) : (a + b).toInt = a.toInt + b.toInt := by
  rw [Int64.toInt_add, l_bm h1 h2]
theorem l_sub {a b : Int64} (h1 : -9223372036854775808 ≤ a.toInt - b.toInt) (h2 : a.toInt - b.toInt ≤ 9223372036854775807) : (a - b).toInt = a.toInt - b.toInt := by
  rw [Int64.toInt_sub, l_bm h1 h2]
theorem l_mul {a b : Int64} (h1 : -9223372036854775808 ≤ a.toInt * b.toInt) (h2 : a.toInt * b.toInt ≤ 9223372036854775807) : (a * b).toInt = a.toInt * b.toInt := by
  rw [Int64.toInt_mul, l_bm h1 h2]
theorem l_div {a b : Int64} (h1 : 0 ≤ a.toInt) (h2 : 0 < b.toInt) : (a / b).toInt = a.toInt / b.toInt := by
  have r := a.toInt_lt
  rw [Int64.toInt_div, Int.tdiv_eq_ediv_of_nonneg h1, l_bm]
  · have := Int.ediv_nonneg h1 (Int.le_of_lt h2)
    omega
  · have := Int.ediv_le_self b.toInt h1
    omega
theorem l_to {a : Int64} (h1 : -2147483648 ≤ a.toInt) (h2 : a.toInt ≤ 2147483647) : a.toInt32.toInt = a.toInt := by
  rw [Int64.toInt_toInt32, Int.bmod_eq_of_le (by omega) (by omega)]
theorem l_cmp {x y : Int64} : 0 ≤ lg_cmp x y ↔ y.toInt ≤ x.toInt := by
  unfold lg_cmp
  split
  · rename_i h
    have h := Int64.lt_iff_toInt_lt.mp h
    exact ⟨fun _ => by omega, fun _ => by decide⟩
  · rename_i h0
    split
    · rename_i h
      subst h
      exact ⟨fun _ => Int.le_refl _, fun _ => by decide⟩
    · rename_i h
      have h0 := mt Int64.lt_iff_toInt_lt.mpr h0
      have h2 : x.toInt ≠ y.toInt := fun e => h (Int64.toInt_inj.mp e)
      exact ⟨fun e => absurd e (by decide), fun e => by omega⟩
/-! BACK: both sides say the same -/
def sp_n (q l n : Int32) : Int64 := (((n.toInt64 * l.toInt64) + (12 * q.toInt64)) - 1) / (12 * q.toInt64)
theorem sp_nb {q l n : Int32} (hq : 1 ≤ q.toInt ∧ q.toInt ≤ 3600) (hl : 1 ≤ l.toInt ∧ l.toInt ≤ 172798) (hn : 0 ≤ n.toInt ∧ n.toInt ≤ 12 * q.toInt - 1) : (sp_n q l n).toInt32.toInt = (sp_n q l n).toInt ∧ 0 ≤ (sp_n q l n).toInt ∧ (sp_n q l n).toInt ≤ 172799 := by
  have m0 : 0 ≤ n.toInt * l.toInt := Int.mul_nonneg hn.1 (by omega)
  have m1 : n.toInt * l.toInt ≤ 43200 * 172798 := Int.mul_le_mul (by omega) hl.2 (by omega) (by omega)
  have e1 : (n.toInt64 * l.toInt64).toInt = n.toInt * l.toInt := by rw [l_mul (by rw [l_of, l_of]; omega) (by rw [l_of, l_of]; omega), l_of, l_of]
  have t12 : (12 : Int64).toInt = 12 := rfl
  have e2 : (12 * q.toInt64).toInt = 12 * q.toInt := by rw [l_mul (by rw [t12, l_of]; omega) (by rw [t12, l_of]; omega), t12, l_of]
  have e3 : (n.toInt64 * l.toInt64 + 12 * q.toInt64).toInt = n.toInt * l.toInt + 12 * q.toInt := by rw [l_add (by omega) (by omega), e1, e2]
  have t1 : (1 : Int64).toInt = 1 := rfl
  have e4 : (n.toInt64 * l.toInt64 + 12 * q.toInt64 - 1).toInt = n.toInt * l.toInt + 12 * q.toInt - 1 := by rw [l_sub (by omega) (by omega), e3, t1]
  have e5 : (sp_n q l n).toInt = (n.toInt * l.toInt + 12 * q.toInt - 1) / (12 * q.toInt) := by
    unfold sp_n
    rw [l_div (by omega) (by omega), e4, e2]
  have m2 : n.toInt * l.toInt ≤ (12 * q.toInt - 1) * l.toInt := Int.mul_le_mul_of_nonneg_right hn.2 (by omega)
  have b0 : 0 ≤ (sp_n q l n).toInt := by
    rw [e5]
    exact Int.ediv_nonneg (by omega) (by omega)
  have b1 : (sp_n q l n).toInt ≤ 172799 := by
    have k : (sp_n q l n).toInt < l.toInt + 1 := by
      rw [e5]
      refine Int.ediv_lt_of_lt_mul (by omega) ?_
      have x1 : (12 * q.toInt - 1) * l.toInt = 12 * q.toInt * l.toInt - l.toInt := by rw [Int.sub_mul, Int.one_mul]
      have x2 : (l.toInt + 1) * (12 * q.toInt) = 12 * q.toInt * l.toInt + 12 * q.toInt := by rw [Int.add_mul, Int.one_mul, Int.mul_comm l.toInt]
      omega
    omega
  exact ⟨l_to (by omega) (by omega), b0, b1⟩
def sp_b (q n : Int32) : Option (Int × Int) → Int32
  | none => -2
  | some (u, l) => if l ≤ (sp_n q (Int32.ofInt l) n).toInt then -2 else Int32.ofInt u + (sp_n q (Int32.ofInt l) n).toInt32
noncomputable def sp_90 (T : Nat → Int32) (a b h n : Int32) : Int32 := if ¬ (0 ≤ a.toInt ∧ a.toInt < (T 0).toInt) ∨ ¬ (0 ≤ b.toInt ∧ b.toInt ≤ 35999) ∨ ¬ (0 ≤ h.toInt ∧ h.toInt ≤ 1) ∨ ¬ (0 ≤ n.toInt ∧ n.toInt ≤ 12 * (T 1).toInt - 1) then -1 else
  sp_b (T 1) n (hv_t T a.toInt.toNat b.toInt h.toInt)
theorem h01 {h : Int32} (k : 0 ≤ h.toInt ∧ h.toInt ≤ 1) : h = 0 ∨ h = 1 := by
  have k : h.toInt = 0 ∨ h.toInt = 1 := by omega
  exact k.elim (fun e => .inl (ti_eq.mpr e)) (fun e => .inr (ti_eq.mpr e))
theorem q12 {q : Int32} (hq : 1 ≤ q.toInt ∧ q.toInt ≤ 3600) : (12 * q - 1 : Int32).toInt = 12 * q.toInt - 1 := by
  have e : (12 * q : Int32).toInt = 12 * q.toInt := by
    rw [ti_mul (by rw [show (12 : Int32).toInt = 12 from rfl]; omega) (by rw [show (12 : Int32).toInt = 12 from rfl]; omega)]
    rfl
  rw [aa_sub32 (by rw [e, show (1 : Int32).toInt = 1 from rfl]; omega) (by rw [e, show (1 : Int32).toInt = 1 from rfl]; omega), e]
  rfl
theorem ck_90 {g : aa_G} (W : wd_g g) (a b h n : Int32) : (fn_90 g a b h n).1 = sp_90 (g 541) a b h n := by
  have hq := W.2.1
  have e21 := W.2.2.2.1
  unfold fn_90 sp_90
  rcases ct_at W a with ⟨t, ht, rfl, ht2, e1, -⟩ | ⟨n1, e1, -⟩
  · rw [e1]
    dsimp only
    by_cases zb : fn_77 b = 0
    · rw [if_pos zb, if_pos (.inr (.inl (ti_77z.mp zb)))]
    · have hb := ti_77n.mp zb
      rw [if_neg zb]
      unfold fn_91
      rw [e21]
      by_cases zh : fn_14 h 0 1 = 0
      · have hh : ¬ (0 ≤ h.toInt ∧ h.toInt ≤ 1) := ti_14z.mp zh
        rw [if_pos zh, if_neg (c := (0 : Int32) ≠ 0) (by decide), if_pos (.inr (.inr (.inl hh)))]
      · have hh : 0 ≤ h.toInt ∧ h.toInt ≤ 1 := ti_14n.mp zh
        rw [if_neg zh]
        by_cases zn : fn_14 n 0 (12 * g 541 1 - 1) = 0
        · have hn : ¬ (0 ≤ n.toInt ∧ n.toInt ≤ 12 * (g 541 1).toInt - 1) := by
            have k := ti_14z.mp zn
            rw [q12 hq] at k
            exact k
          rw [if_pos zn, if_neg (c := (0 : Int32) ≠ 0) (by decide), if_pos (.inr (.inr (.inr hn)))]
        · have hn : 0 ≤ n.toInt ∧ n.toInt ≤ 12 * (g 541 1).toInt - 1 := by
            have k := ti_14n.mp zn
            rw [q12 hq] at k
            exact k
          have hz : ¬ (¬ (0 ≤ (Int32.ofNat t).toInt ∧ (Int32.ofNat t).toInt < (g 541 0).toInt) ∨ ¬ (0 ≤ b.toInt ∧ b.toInt ≤ 35999) ∨ ¬ (0 ≤ h.toInt ∧ h.toInt ≤ 1) ∨ ¬ (0 ≤ n.toInt ∧ n.toInt ≤ 12 * (g 541 1).toInt - 1)) := by
            rw [zz_ofN (by omega)]
            omega
          rw [if_neg zn, if_pos (c := (1 : Int32) ≠ 0) (by decide), if_neg hz, zz_ofN (by omega), show ((t : Int).toNat) = t by omega]
          obtain ⟨f, -, -, m⟩ := (ck_look (g := g) (P := 461) (d := b) (h := h) W ht2 (by omega) (h01 hh)).1
          generalize fn_78 g 461 (some (5 * t + 14)) b h = G at f m ⊢
          have q21 : G 2 1 = g 541 1 := (f 2 1 (by omega)).trans e21
          unfold fn_90_45 fn_92
          dsimp only
          cases hv : hv_t (g 541) t b.toInt h.toInt with
          | none =>
            rw [hv] at m
            rw [if_pos (c := G 461 0 = 0) m.1]
            rfl
          | some r =>
            obtain ⟨u, l⟩ := r
            rw [hv] at m
            obtain ⟨m1, m2, m3⟩ := m
            obtain ⟨v1, v2, v3, v4, v5⟩ := hv_b W ht2 hv
            have hl : 1 ≤ (Int32.ofInt l).toInt ∧ (Int32.ofInt l).toInt ≤ 172798 := by
              rw [← of_ti m3, m3]
              omega
            obtain ⟨s1, s2, s3⟩ := sp_nb hq hl hn
            rw [if_neg (c := G 461 0 = 0) (by rw [m1]; decide), q21, if_pos (c := (1 : Int32) ≤ g 541 1) (aa_le32.mpr hq.1), of_ti m2, of_ti m3]
            unfold sp_b
            show (if 0 ≤ lg_cmp (sp_n (g 541 1) (Int32.ofInt l) n) (Int32.ofInt l).toInt64 then (-2 : Int32) else Int32.ofInt u + (sp_n (g 541 1) (Int32.ofInt l) n).toInt32) = _
            have e : 0 ≤ lg_cmp (sp_n (g 541 1) (Int32.ofInt l) n) (Int32.ofInt l).toInt64 ↔ l ≤ (sp_n (g 541 1) (Int32.ofInt l) n).toInt := by
              rw [l_cmp, l_of, ← of_ti m3, m3]
            dsimp only
            by_cases z : l ≤ (sp_n (g 541 1) (Int32.ofInt l) n).toInt
            · rw [if_pos (e.mpr z), if_pos z]
            · rw [if_neg (mt e.mp z), if_neg z]
  · have hz : ¬ (0 ≤ a.toInt ∧ a.toInt < (g 541 0).toInt) ∨ ¬ (0 ≤ b.toInt ∧ b.toInt ≤ 35999) ∨ ¬ (0 ≤ h.toInt ∧ h.toInt ≤ 1) ∨ ¬ (0 ≤ n.toInt ∧ n.toInt ≤ 12 * (g 541 1).toInt - 1) := .inl n1
    rw [e1, if_pos hz]
theorem mk_203 {g : aa_G} (W : wd_g g) (a b h n : Int32) : (fn_203 g a b h n).1 = sp_90 (g 541) a b h n := by
  have hq := W.2.1
  unfold fn_203 sp_90
  rcases ct_at W a with ⟨t, ht, rfl, ht2, -, e1⟩ | ⟨n1, -, e1⟩
  · by_cases hb : 0 ≤ b.toInt ∧ b.toInt ≤ 35999
    · rw [if_neg (c := fn_191 g (Int32.ofNat t) b = 0) (fun z => (ti_191.mp z).elim (fun y => by rw [e1] at y; exact absurd y (by decide)) (fun y => y hb))]
      unfold fn_204
      rw [show (1 : Int32).toNatClampNeg = 1 from rfl]
      by_cases zh : fn_154 h 0 1 = 0
      · have hh : ¬ (0 ≤ h.toInt ∧ h.toInt ≤ 1) := ti_154z.mp zh
        rw [if_pos zh, if_pos (c := (0 : Int32) = 0) rfl, if_pos (.inr (.inr (.inl hh)))]
      · have hh : 0 ≤ h.toInt ∧ h.toInt ≤ 1 := ti_154n.mp zh
        rw [if_neg zh]
        by_cases zn : fn_154 n 0 (12 * g 541 1 - 1) = 0
        · have hn : ¬ (0 ≤ n.toInt ∧ n.toInt ≤ 12 * (g 541 1).toInt - 1) := by
            have k := ti_154z.mp zn
            rw [q12 hq] at k
            exact k
          rw [if_pos zn, if_pos (c := (0 : Int32) = 0) rfl, if_pos (.inr (.inr (.inr hn)))]
        · have hn : 0 ≤ n.toInt ∧ n.toInt ≤ 12 * (g 541 1).toInt - 1 := by
            have k := ti_154n.mp zn
            rw [q12 hq] at k
            exact k
          have hz : ¬ (¬ (0 ≤ (Int32.ofNat t).toInt ∧ (Int32.ofNat t).toInt < (g 541 0).toInt) ∨ ¬ (0 ≤ b.toInt ∧ b.toInt ≤ 35999) ∨ ¬ (0 ≤ h.toInt ∧ h.toInt ≤ 1) ∨ ¬ (0 ≤ n.toInt ∧ n.toInt ≤ 12 * (g 541 1).toInt - 1)) := by
            rw [zz_ofN (by omega)]
            omega
          rw [if_neg zn, if_neg (c := (1 : Int32) = 0) (by decide), if_neg hz, zz_ofN (by omega), show ((t : Int).toNat) = t by omega]
          unfold fn_205
          generalize hg : fn_194 g (Int32.ofNat t) b h = G
          obtain ⟨v, G⟩ := G
          obtain ⟨f, m⟩ := mk_half W ht2 (h01 hh) hg
          have q : G 541 1 = g 541 1 := f 541 1 (by omega)
          unfold fn_205_7
          dsimp only
          cases hv : hv_t (g 541) t b.toInt h.toInt with
          | none =>
            rw [hv] at m
            have m : v = 0 := m
            rw [if_neg (c := v ≠ 0) (fun z => z m)]
            rfl
          | some r =>
            obtain ⟨u, l⟩ := r
            rw [hv] at m
            obtain ⟨m1, m2, m3⟩ := m
            obtain ⟨v1, v2, v3, v4, v5⟩ := hv_b W ht2 hv
            have hl : 1 ≤ (Int32.ofInt l).toInt ∧ (Int32.ofInt l).toInt ≤ 172798 := by
              rw [← of_ti m3, m3]
              omega
            obtain ⟨s1, s2, s3⟩ := sp_nb hq hl hn
            have e6 : fn_206 G n = (sp_n (g 541 1) (Int32.ofInt l) n).toInt32 := by
              unfold fn_206 sp_n
              rw [show (1 : Int32).toNatClampNeg = 1 from rfl, q, of_ti m3]
            rw [if_pos (c := v ≠ 0) (by rw [m1]; decide), e6, of_ti m2]
            have e : G 540 18 ≤ (sp_n (g 541 1) (Int32.ofInt l) n).toInt32 ↔ l ≤ (sp_n (g 541 1) (Int32.ofInt l) n).toInt := by
              rw [aa_le32, s1, m3]
            unfold sp_b
            dsimp only
            by_cases z : l ≤ (sp_n (g 541 1) (Int32.ofInt l) n).toInt
            · rw [if_pos (e.mpr z), if_pos z]
            · rw [if_neg (mt e.mp z), if_neg z]
    · rw [if_pos (c := fn_191 g (Int32.ofNat t) b = 0) (ti_191.mpr (.inr hb)), if_pos (.inr (.inl hb))]
  · rw [if_pos (c := fn_191 g a b = 0) (ti_191.mpr (.inl e1)), if_pos (.inl n1)]
theorem lq_90 {g : aa_G} {a0 a1 a2 a3 : Int32} (hi : aa_inv g) (hφ : aa_Phi g) (hR : lr_R g) : lq_ok true 90 203 [.int a0, .int a1, .int a2, .int a3] g :=
  lq_ask (y := fn_203 (fn_90 g a0 a1 a2 a3).2 a0 a1 a2 a3) hi hφ hR (ko_fw (ko_90 hi hφ) fun _ _ _ r => dn_90 r) (fun i1 p1 => ko_fw (ko_203 i1 p1) fun _ _ _ r => dn_203 r) (by decide +kernel) (by decide +kernel) (by decide +kernel) (by decide +kernel) (by decide +kernel) (by decide +kernel) fun W W2 e => by rw [ck_90 W, mk_203 W2, e]
end
