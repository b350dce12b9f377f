/-! EDITS: offset(), parts() on both sides; a town that is changed -/
/-- what the BELLS' part of the relation hangs on -/
def rq_bf (B : rq_Q) : Prop := ∀ (gc gc' gm gm' : aa_G) (S r : Nat), (∀ k j, S + 2 ≤ k → k ≤ S + 11 → gc' k j = gc k j) → (∀ q, q < 399 → (q = 2 ∨ 203 ≤ q) → gm' 541 (399 * r + q) = gm 541 (399 * r + q)) → B gc gm S r → B gc' gm' S r
def qb_s (B : rq_Q) : rq_Q := fun gc gm S r => q1_s gc gm S r ∧ B gc gm S r
theorem qb_cp {B : rq_Q} (h : rq_cp B) : rq_cp (qb_s B) := fun gc gc' gm gm' S S' r r' hi hr hc hm k => ⟨q1_cp gc gc' gm gm' S S' r r' hi hr hc hm k.1, h gc gc' gm gm' S S' r r' hi hr hc hm k.2⟩
theorem tq_same {gc gc' gm gm' : aa_G} {T p : Nat} (h12 : (gm 541 (p + 1)).toInt ≤ 12) (hc : ∀ k j, T ≤ k → k ≤ T + 4 → gc' k j = gc k j) (hm : ∀ q, q < 50 → gm' 541 (p + q) = gm 541 (p + q)) (h : tq_t gc gm T p) : tq_t gc' gm' T p := by
  obtain ⟨a1, a2, a3, a4⟩ := h
  have m0 := hm 0 (by omega)
  rw [Nat.add_zero] at m0
  have m1 := hm 1 (by omega)
  refine ⟨(hc T 0 (by omega) (by omega)).trans (a1.trans m0.symm), (hc T 1 (by omega) (by omega)).trans (a2.trans m1.symm), fun i hi o o1 o2 => ?_, fun i hi => ?_⟩
  · rw [m1] at hi
    have e := hm (1 + 4 * i + o) (by omega)
    rw [show p + (1 + 4 * i + o) = p + 1 + 4 * i + o by omega] at e
    rw [hc _ i (by omega) (by omega), e]
    exact a3 i hi o o1 o2
  · rw [m1] at hi
    have e := hm (1 + 4 * i + 1) (by omega)
    have e2 := hm (1 + 4 * (i + 1) + 1) (by omega)
    rw [show p + (1 + 4 * i + 1) = p + 1 + 4 * i + 1 by omega] at e
    rw [show p + (1 + 4 * (i + 1) + 1) = p + 1 + 4 * (i + 1) + 1 by omega] at e2
    rw [e, e2]
    exact a4 i hi
section MU
variable {B : rq_Q} {gc gm gc1 gm1 gc2 gm2 : aa_G} {c e : Nat}
/-- behind a deed: the state that is now, and all that is kept, as it was -/
theorem mu_rest (hcp : rq_cp B) (hi : aa_inv gm) (h : rr_g (qb_s B) gc gm) (hd : rd_g (qb_s B) gc gm c e) (hc : cd_push gc gc1 2 e c) (hm : md_push gm gm1 0 c) (f2 : ∀ k j, ¬ (2 ≤ k ∧ k ≤ 33) → gc2 k j = gc1 k j) (f3 : ∀ k j, ¬ (k = 541 ∧ j < 399) → gm2 k j = gm1 k j) (hq : qb_s B gc2 gm2 2 0) : rr_g (qb_s B) gc2 gm2 := by
  obtain ⟨h0, h2, -, s1, s2, s3, s4, s5, s6, s7⟩ := h
  have he := hd.1.2
  obtain ⟨p1, p2, p3, p4⟩ := hc
  obtain ⟨m1, m2, m3, m4⟩ := hm
  have fc : ∀ k j, ¬ (2 ≤ k ∧ k ≤ 33) → ¬ (32 * e + 68 ≤ k ∧ k ≤ 32 * e + 99) → ¬ (k = 66 ∧ j ≤ 1) → gc2 k j = gc k j := fun k j a1 a2 a3 => (f2 k j a1).trans (p4 k j a2 a3)
  have fm : ∀ k j, ¬ (k = 541 ∧ j < 399) → ¬ (k = 541 ∧ 1197 ≤ j ∧ j < 5985) → ¬ (k = 540 ∧ j = 1) → gm2 k j = gm k j := fun k j a1 a2 a3 => (f3 k j a1).trans (m4 k j a2 a3)
  refine ⟨hq, fun k hk => ⟨?_, fun z => ?_⟩, ⟨_, _, rd_push (qb_cp hcp) hi h0 hd (cp_via p1 fun k j q1 q2 => f2 k j (by omega)) ((f2 66 0 (by omega)).trans p2) ((f2 66 1 (by omega)).trans p3) (fun k j q1 q2 q3 => fc k j (by omega) q3 (by omega)) ((f3 540 1 (by omega)).trans m1) (fun q hq => (f3 541 _ (by omega)).trans (m2 q hq)) (fun i q hq hi' => (f3 541 _ (by omega)).trans (m3 i q hq hi'))⟩, ?_⟩
  · rw [fc 453 k (by omega) (by omega) (by omega), fm 542 k (by omega) (by omega) (by omega)]
    exact (h2 k hk).1
  · rw [fm 542 k (by omega) (by omega) (by omega)] at z
    exact rq_same (qb_cp hcp) hi (by omega) (fun k' j q1 q2 => fc k' j (by omega) (by omega) (by omega)) (fun q hq => fm 541 _ (by omega) (by omega) (by omega)) ((h2 k hk).2 z)
  · refine ⟨?_, fun k hk => ?_, ?_, ?_, ?_, ?_, fun j hj => ?_⟩
    · rw [fc 454 0 (by omega) (by omega) (by omega), fm 540 4 (by omega) (by omega) (by omega)]; exact s1
    · rw [fm 543 k (by omega) (by omega) (by omega), fc 455 k (by omega) (by omega) (by omega)]; exact s2 k hk
    · rw [fc 1 13 (by omega) (by omega) (by omega), fm 540 6 (by omega) (by omega) (by omega)]; exact s3
    · rw [fc 1 14 (by omega) (by omega) (by omega), fm 540 35 (by omega) (by omega) (by omega)]; exact s4
    · rw [fm 540 16 (by omega) (by omega) (by omega)]; exact s5
    · rw [fc 459 0 (by omega) (by omega) (by omega), fm 540 37 (by omega) (by omega) (by omega)]; exact s6
    · rw [fm 540 37 (by omega) (by omega) (by omega)] at hj
      rw [fc 460 j (by omega) (by omega) (by omega), fm 553 j (by omega) (by omega) (by omega)]; exact s7 j hj
/-- the now of both sides behind a deed is the now ahead of it -/
theorem mu_now (hcp : rq_cp B) (hi : aa_inv gm) (h0 : qb_s B gc gm 2 0) (he : e < 12) (hc : cd_push gc gc1 2 e c) (hm : md_push gm gm1 0 c) : qb_s B gc1 gm1 2 0 :=
  rq_same (qb_cp hcp) hi (by omega) (fun k j q1 q2 => hc.2.2.2 k j (by omega) (by omega)) (fun q hq => hm.2.2.2 541 _ (by omega) (by omega)) h0
/-- one town is another -/
theorem mu_town (hcp : rq_cp B) (hbf : rq_bf B) {t : Nat} (hi : aa_inv gm) (ht : (t : Int) < (gm 541 0).toInt) (h : rr_g (qb_s B) gc gm) (hd : rd_g (qb_s B) gc gm c e) (hc : cd_push gc gc1 2 e c) (hm : md_push gm gm1 0 c) (f2 : ∀ k j, ¬ (5 * t + 14 ≤ k ∧ k ≤ 5 * t + 18) → gc2 k j = gc1 k j) (f3 : ∀ k j, ¬ (k = 541 ∧ 50 * t + 3 ≤ j ∧ j < 50 * t + 53) → gm2 k j = gm1 k j) (hq : tq_t gc2 gm2 (5 * t + 14) (50 * t + 3)) : rr_g (qb_s B) gc2 gm2 := by
  have n4 : 0 ≤ (gm 541 0).toInt ∧ (gm 541 0).toInt ≤ 4 := iv_n hi (r := 0)
  have he := hd.1.2
  refine mu_rest hcp hi h hd hc hm (fun k j z => f2 k j (by omega)) (fun k j z => f3 k j (by omega)) ?_
  obtain ⟨h0, -⟩ := h
  have g1 := mu_now hcp hi h0 he hc hm
  obtain ⟨⟨q1, q2, q3, q4⟩, b⟩ := g1
  have c0 : ∀ j, gm1 541 j = gm 541 j ∨ 1197 ≤ j := fun j => by
    by_cases z : 1197 ≤ j
    · exact .inr z
    · exact .inl (hm.2.2.2 541 j (by omega) (by omega))
  have c00 := (c0 0).resolve_right (by omega)
  refine ⟨⟨?_, ?_, ?_, fun u hu => ?_⟩, hbf gc1 gc2 gm1 gm2 2 0 (fun k j a1 a2 => f2 k j (by omega)) (fun q hq z => f3 541 _ (by omega)) b⟩
  · rw [f2 2 0 (by omega), f3 541 _ (by omega)]; exact q1
  · rw [f2 2 1 (by omega), f3 541 _ (by omega)]; exact q2
  · rw [f2 (2 + 2) 0 (by omega), f3 541 _ (by omega)]; exact q3
  · rw [f3 541 _ (by omega)] at hu
    have hu4 : (u : Int) < 4 := by
      have : gm1 541 (399 * 0) = gm 541 0 := c00
      rw [this] at hu
      omega
    by_cases hut : u = t
    · subst hut
      rw [show 5 * u + (2 + 12) = 5 * u + 14 by omega, show 399 * 0 + 50 * u + 3 = 50 * u + 3 by omega]
      exact hq
    · have k := q4 u hu
      have cc := iv_c hi (r := 0) (t := u) (by omega)
      refine tq_same ?_ (fun k j a1 a2 => f2 k j (by omega)) (fun q hq => f3 541 _ (by omega)) k
      rw [(c0 _).resolve_right (by omega)]
      exact cc.2
end MU
theorem dm_deed {g : aa_G} {c : Nat} (hc : g 540 1 = Int32.ofNat c) (h12 : c ≤ 12) : md_push g (fn_156 g) 0 c := by
  obtain ⟨n, v, h, r, -, g', rfl, p⟩ := rn_of (md_deed (row := 0) (.inl rfl) hc h12)
  have e := ep_H (dn_157 r).2
  have e2 : fn_156 g = fn_157 g (Int32.ofNat 0) := rfl
  rw [e2, ← e]
  exact p
theorem rr_rem {Q : rq_Q} {gc gm : aa_G} {c e : Nat} (hd : rd_g Q gc gm c e) : rem_ok gc := ⟨c, e, hd.1.1, hd.1.2, hd.2.1.1, hd.2.1.2.2⟩
theorem rr_push {Q : rq_Q} {gc gm : aa_G} {c e : Nat} (hd : rd_g Q gc gm c e) : cd_push gc (fn_40 gc) 2 e c ∧ md_push gm (fn_156 gm) 0 c := ⟨dk_40 hd.1.1 hd.1.2 hd.2.1.1 hd.2.1.2.2, dm_deed hd.2.1.2.1 hd.1.1⟩
/-- which town is asked of, on two heaps -/
theorem ct_two {B : rq_Q} {gc gm : aa_G} (hi : aa_inv gm) (h : qb_s B gc gm 2 0) (a : Int32) : (∃ t : Nat, t < 4 ∧ a = Int32.ofNat t ∧ (t : Int) < (gm 541 0).toInt ∧ fn_31 gc a = some (5 * t + 14) ∧ fn_192 gm a = 1 ∧ tq_t gc gm (5 * t + 14) (50 * t + 3)) ∨ (¬ (0 ≤ a.toInt ∧ a.toInt < (gm 541 0).toInt) ∧ fn_31 gc a = none ∧ fn_192 gm a = 0) := by
  have n4 : 0 ≤ (gm 541 0).toInt ∧ (gm 541 0).toInt ≤ 4 := iv_n hi (r := 0)
  obtain ⟨⟨e0, -, -, q4⟩, -⟩ := h
  have e0 : gc 2 0 = gm 541 0 := e0
  have es : (gm 541 0 - 1).toInt = (gm 541 0).toInt - 1 := aa_sub32 (by rw [show (1 : Int32).toInt = 1 from rfl]; omega) (by rw [show (1 : Int32).toInt = 1 from rfl]; omega)
  have e192 : fn_192 gm a = fn_154 a 0 (gm 541 0 - 1) := rfl
  unfold fn_31
  rw [e192, e0]
  by_cases h : 0 ≤ a.toInt ∧ a.toInt < (gm 541 0).toInt
  · left
    obtain ⟨t, t1, rfl, t3⟩ := ti_nat h.1
    have k := q4 t (by show (t : Int) < (gm 541 0).toInt; omega)
    rw [show 5 * t + (2 + 12) = 5 * t + 14 by omega, show 399 * 0 + 50 * t + 3 = 50 * t + 3 by omega] at k
    refine ⟨t, by omega, rfl, by omega, ?_, ?_, k⟩
    · rw [if_neg (ti_14n.mpr (by rw [es]; exact ⟨h.1, by omega⟩)), zz_toN t1]
    · rw [ti_154, if_pos (by rw [es]; exact ⟨h.1, by omega⟩)]
  · right
    refine ⟨h, ?_, ?_⟩
    · rw [if_pos (ti_14z.mpr (by rw [es]; exact fun z => h ⟨z.1, by omega⟩))]
    · rw [ti_154, if_neg (by rw [es]; exact fun z => h ⟨z.1, by omega⟩)]
/-- a mutating call of both sides: like answers, like states -/
def mu_ok (B : rq_Q) (rc rm : Int32 × aa_G) : Prop := rc.1 = rm.1 ∧ rr_g (qb_s B) rc.2 rm.2
theorem mu_mk {B : rq_Q} {a c : Int32} {x y : aa_G} (h1 : a = c) (h2 : rr_g (qb_s B) x y) : mu_ok B (a, x) (c, y) := ⟨h1, h2⟩
theorem mu_offset {B : rq_Q} (hcp : rq_cp B) (hbf : rq_bf B) {gc gm : aa_G} (hi : aa_inv gm) (h : rr_g (qb_s B) gc gm) (a n : Int32) : mu_ok B (fn_60 gc a n) (fn_254 gm a n) := by
  have h' := h
  obtain ⟨h0, h2, ⟨c, e, hd⟩, hs⟩ := h
  have h := h'
  obtain ⟨pc, pm⟩ := rr_push hd
  have he := hd.1.2
  unfold fn_60 fn_254
  rcases ct_two hi h0 a with ⟨t, t4, rfl, tn, e1, e2, k⟩ | ⟨tn, e1, e2⟩
  · rw [e1, e2, if_neg (by decide)]
    dsimp only
    by_cases hn : (-43200 : Int32).toInt ≤ n.toInt ∧ n.toInt ≤ (43200 : Int32).toInt
    · rw [if_pos (ti_14n.mpr hn), if_neg (ti_154n.mpr hn)]
      unfold fn_60_40 fn_255 fn_255_4
      rw [ml_ta, zz_toN (by omega)]
      dsimp only
      have k1 := mu_now hcp hi h0 he pc pm
      have x1 : fn_40 gc (5 * t + 14) 0 = gc (5 * t + 14) 0 := pc.2.2.2 _ _ (by omega) (by omega)
      have x2 : ∀ q, q < 399 → fn_156 gm 541 q = gm 541 q := fun q hq => pm.2.2.2 _ _ (by omega) (by omega)
      refine mu_mk ?_ (mu_town hcp hbf hi tn h hd pc pm (fun k j z => aa_w_ne _ _ (by omega)) (fun k j z => aa_w_ne _ _ (by omega)) ?_)
      · show fn_40 gc (5 * t + 14) 0 = fn_156 gm 541 (50 * t + 3)
        rw [x1, x2 _ (by omega)]
        exact k.1
      · have cc := iv_c hi (r := 0) t4
        rw [show 399 * 0 + 50 * t + 3 + 1 = 50 * t + 3 + 1 by omega] at cc
        have k2 : tq_t (fn_40 gc) (fn_156 gm) (5 * t + 14) (50 * t + 3) := tq_same cc.2 (fun k j a1 a2 => pc.2.2.2 k j (by omega) (by omega)) (fun q hq => x2 _ (by omega)) k
        obtain ⟨b1, b2, b3, b4⟩ := k2
        have w : ∀ q, q < 50 → 1 ≤ q → zz_w (fn_156 gm) 541 (50 * t + 3) n 541 (50 * t + 3 + q) = fn_156 gm 541 (50 * t + 3 + q) := fun q _ _ => aa_w_ne _ _ (by omega)
        have wc : (fn_156 gm 541 (50 * t + 3 + 1)).toInt ≤ 12 := by rw [x2 _ (by omega)]; exact cc.2
        refine ⟨?_, ?_, fun i hi' o o1 o2 => ?_, fun i hi' => ?_⟩
        · rw [aa_w_at, aa_w_at]
        · rw [aa_w_ne _ _ (by omega), w 1 (by omega) (by omega)]; exact b2
        · rw [w 1 (by omega) (by omega)] at hi'
          have e := w (1 + 4 * i + o) (by omega) (by omega)
          rw [show 50 * t + 3 + (1 + 4 * i + o) = 50 * t + 3 + 1 + 4 * i + o by omega] at e
          rw [aa_w_ne _ _ (by omega), e]
          exact b3 i hi' o o1 o2
        · rw [w 1 (by omega) (by omega)] at hi'
          have e := w (1 + 4 * i + 1) (by omega) (by omega)
          have e3 := w (1 + 4 * (i + 1) + 1) (by omega) (by omega)
          rw [show 50 * t + 3 + (1 + 4 * i + 1) = 50 * t + 3 + 1 + 4 * i + 1 by omega] at e
          rw [show 50 * t + 3 + (1 + 4 * (i + 1) + 1) = 50 * t + 3 + 1 + 4 * (i + 1) + 1 by omega] at e3
          rw [e, e3]
          exact b4 i hi'
    · rw [if_neg (fun z => hn (ti_14n.mp z)), if_pos (ti_154z.mpr hn)]
      exact mu_mk rfl h
  · rw [e1, e2, if_pos rfl]
    exact mu_mk rfl h
theorem mu_parts {B : rq_Q} (hcp : rq_cp B) (hbf : rq_bf B) {gc gm : aa_G} (hi : aa_inv gm) (h : rr_g (qb_s B) gc gm) (n : Int32) : mu_ok B (fn_61 gc n) (fn_256 gm n) := by
  have h' := h
  obtain ⟨h0, h2, ⟨c, e, hd⟩, hs⟩ := h
  have h := h'
  obtain ⟨pc, pm⟩ := rr_push hd
  have he := hd.1.2
  have n4 : 0 ≤ (gm 541 0).toInt ∧ (gm 541 0).toInt ≤ 4 := iv_n hi (r := 0)
  unfold fn_61 fn_256
  by_cases hn : (1 : Int32).toInt ≤ n.toInt ∧ n.toInt ≤ (3600 : Int32).toInt
  · rw [if_pos (ti_14n.mpr hn), if_neg (ti_154n.mpr hn)]
    unfold fn_61_24 fn_255 fn_255_4
    rw [show (1 : Int32).toNatClampNeg = 1 from rfl]
    dsimp only
    have k1 := mu_now hcp hi h0 he pc pm
    have x2 : ∀ q, q < 399 → fn_156 gm 541 q = gm 541 q := fun q hq => pm.2.2.2 _ _ (by omega) (by omega)
    obtain ⟨⟨q1, q2, q3, q4⟩, b⟩ := k1
    refine mu_mk q2 (mu_rest hcp hi h hd pc pm (fun k j z => aa_w_ne _ _ (by omega)) (fun k j z => aa_w_ne _ _ (by omega)) ⟨⟨?_, ?_, ?_, fun u hu => ?_⟩, hbf _ _ _ _ 2 0 (fun k j a1 a2 => aa_w_ne _ _ (by omega)) (fun q hq z => aa_w_ne _ _ (by omega)) b⟩)
    · exact (aa_w_ne _ _ (by omega)).trans (q1.trans (aa_w_ne _ _ (by omega)).symm)
    · exact (aa_w_at _ _ _ _).trans (aa_w_at _ _ _ _).symm
    · exact (aa_w_ne _ _ (by omega)).trans (q3.trans (aa_w_ne _ _ (by omega)).symm)
    · have hu : (u : Int) < (fn_156 gm 541 0).toInt := by
        have e : zz_w (fn_156 gm) 541 1 n 541 (399 * 0) = fn_156 gm 541 0 := aa_w_ne _ _ (by omega)
        have hu : (u : Int) < (zz_w (fn_156 gm) 541 1 n 541 (399 * 0)).toInt := hu
        rw [e] at hu
        exact hu
      have k := q4 u hu
      rw [x2 0 (by omega)] at hu
      have cc := iv_c hi (r := 0) (t := u) (by omega)
      refine tq_same ?_ (fun k j a1 a2 => aa_w_ne _ _ (by omega)) (fun q hq => aa_w_ne _ _ (by omega)) k
      rw [x2 _ (by omega)]
      exact cc.2
  · rw [if_neg (fun z => hn (ti_14n.mp z)), if_pos (ti_154z.mpr hn)]
    exact mu_mk rfl h
