/-! AN ANALYSER OF METHODS: the instructions are well told -/
section AL
variable {Φ : aa_G → Prop} {ws fr : aa_W} {hk : aa_Hk} {s : aa_S} {ν : List Int} {g : aa_G} {lv : zz_V} {st : List Value} {pc : Nat}
theorem aa_kv_ok {v : Value} {z : Option zz_O} (h : aa_ok s ν g lv st) (hi : aa_inv g) (hz : ∀ a, v = .int a → z = zz_go pc lv (.int a :: st) (aa_H g)) : aa_snd Φ ws (aa_kv pc s v) ν g z := aa_snd.go hi fun l hl => by
  unfold aa_kv at hl
  split at hl
  · cases hl
    exact ⟨_, _, _, hz _ rfl, aa_res0 (aa_pi_ok h h.2.2.2.2 aa_c_ev)⟩
  · cases hl
theorem aa_kvl_ok {v : Value} {z : Option zz_O} (h : aa_ok s ν g lv st) (hi : aa_inv g) (hz : ∀ a, v = .long a → z = zz_go pc lv (.long a :: st) (aa_H g)) : aa_snd Φ ws (aa_kvl pc s v) ν g z := aa_snd.go hi fun l hl => by
  unfold aa_kvl at hl
  split at hl
  · cases hl
    exact ⟨_, _, _, hz _ rfl, aa_res0 (aa_wst_ok h ⟨⟨Nat.succ_ne_zero _, _, rfl, aa_c_ev⟩, h.2.2.2.2⟩)⟩
  · cases hl
theorem aa_zld {l : List aa_A} {k : Nat} {a : aa_A} (h : aa_ml ν l lv) (hk : l[k]? = some a) {v : Value} (hv : ∀ w, aa_mv ν a w → w = some v) : zz_ld lv k = some v := by
  obtain ⟨w, h1, h2⟩ := aa_ml_get h hk
  rw [hv w h2] at h1
  unfold zz_ld
  rw [h1]
theorem aa_kld1_ok {k : Nat} (h : aa_ok s ν g lv st) (hi : aa_inv g) : aa_snd Φ ws (aa_kld 1 pc s k) ν g (zz_int lv k pc st (aa_H g)) := aa_snd.go hi fun l hl => by
  unfold aa_kld at hl
  split at hl
  · rename_i t f hk
    split at hl
    · rename_i ht
      cases hl
      have e := Nat.eq_of_beq_eq_true ht
      subst e
      obtain ⟨w, h1, a, rfl, h2⟩ := aa_ml_get h.2.2.2.1 hk
      have e : zz_ld lv k = some (.int a) := by unfold zz_ld; rw [h1]
      refine ⟨pc, lv, .int a :: st, ?_, aa_res0 (aa_pi_ok h h.2.2.2.2 h2)⟩
      unfold zz_int
      rw [e]
      rfl
    · cases hl
  · cases hl
theorem aa_kld2_ok {k : Nat} (h : aa_ok s ν g lv st) (hi : aa_inv g) : aa_snd Φ ws (aa_kld 2 pc s k) ν g (zz_lng lv k pc st (aa_H g)) := aa_snd.go hi fun l hl => by
  unfold aa_kld at hl
  split at hl
  · rename_i t f hk
    split at hl
    · rename_i ht
      cases hl
      have e := Nat.eq_of_beq_eq_true ht
      subst e
      obtain ⟨w, h1, a, rfl, h2⟩ := aa_ml_get h.2.2.2.1 hk
      have e : zz_ld lv k = some (.long a) := by unfold zz_ld; rw [h1]
      refine ⟨pc, lv, .long a :: st, ?_, aa_res0 (aa_wst_ok h ⟨⟨Nat.succ_ne_zero _, a, rfl, h2⟩, h.2.2.2.2⟩)⟩
      unfold zz_lng
      rw [e]
      rfl
    · cases hl
  · cases hl
theorem aa_kla_ok {k : Nat} (h : aa_ok s ν g lv st) (hi : aa_inv g) : aa_snd Φ ws (aa_kla pc s k) ν g (zz_rfl lv k pc st (aa_H g)) := aa_snd.go hi fun l hl => by
  unfold aa_kla at hl
  split at hl
  · rename_i f hk
    cases hl
    obtain ⟨w, h1, a, rfl, h2⟩ := aa_ml_get h.2.2.2.1 hk
    have e : zz_ld lv k = some (.ref a) := by unfold zz_ld; rw [h1]
    refine ⟨pc, lv, .ref a :: st, ?_, aa_res0 (aa_wst_ok h ⟨⟨Nat.succ_ne_zero _, a, rfl, h2⟩, h.2.2.2.2⟩)⟩
    unfold zz_rfl
    rw [e]
    rfl
  · rename_i f hk
    cases hl
    obtain ⟨w, h1, h2⟩ := aa_ml_get h.2.2.2.1 hk
    have h2 : w = some .null := h2
    subst h2
    have e : zz_ld lv k = some .null := by unfold zz_ld; rw [h1]
    refine ⟨pc, lv, .null :: st, ?_, aa_res0 (aa_wst_ok h ⟨⟨Nat.succ_ne_zero _, rfl⟩, h.2.2.2.2⟩)⟩
    unfold zz_rfl
    rw [e]
    rfl
  · cases hl
theorem aa_wlv_ok (h : aa_ok s ν g lv st) {l2 : List aa_A} {q2 : zz_V} {l : List aa_A} {q : List Value} (h2 : aa_ml ν l2 q2) (hq : aa_ms ν l q) : aa_ok (aa_wlv s l2 l) ν g q2 q := ⟨h.1, h.2.1, h.2.2.1, h2, hq⟩
theorem aa_kis_at {k : Nat} (h : aa_ok s ν g lv st) {l : List (Nat × aa_S)} (hl : aa_kis pc s k = some l) : ∃ (a : Int32) (q : List Value), st = .int a :: q ∧ k < lv.length ∧ aa_res l ν g pc (zz_st1 lv k (.int a)) q := by
  unfold aa_kis at hl
  split at hl
  · rename_i f r hs
    split at hl
    · rename_i hk
      cases hl
      have hm := h.2.2.2.2
      rw [hs] at hm
      obtain ⟨w, q, rfl, h1, h2⟩ := aa_ms_int hm
      exact ⟨w, q, rfl, by rw [aa_ml_len h.2.2.2.1]; exact hk, aa_res0 (aa_wlv_ok h (aa_st1_ok h.2.2.2.1 k ⟨w, rfl, h1⟩) h2)⟩
    · cases hl
  · cases hl
theorem aa_kis_ok {k : Nat} (h : aa_ok s ν g lv st) (hi : aa_inv g) : aa_snd Φ ws (aa_kis pc s k) ν g (zz_is lv k pc st (aa_H g)) := aa_snd.go hi fun l hl => by
  obtain ⟨a, q, rfl, h1, h2⟩ := aa_kis_at h hl
  refine ⟨_, _, _, ?_, h2⟩
  unfold zz_is
  dsimp only
  rw [if_pos h1]
  rfl
theorem aa_kls_ok {k : Nat} (h : aa_ok s ν g lv st) (hi : aa_inv g) : aa_snd Φ ws (aa_kls pc s k) ν g (zz_ls lv k pc st (aa_H g)) := aa_snd.go hi fun l hl => by
  unfold aa_kls at hl
  split at hl
  · rename_i f r hs
    split at hl
    · rename_i hk
      cases hl
      have hm := h.2.2.2.2
      rw [hs] at hm
      obtain ⟨w, q, rfl, h1, h2⟩ := aa_ms_long hm
      refine ⟨pc, zz_st2 lv k (.long w), q, ?_, aa_res0 (aa_wlv_ok h (aa_st2_ok h.2.2.2.1 k ⟨w, rfl, h1⟩) h2)⟩
      unfold zz_ls
      dsimp only
      rw [if_pos (by rw [aa_ml_len h.2.2.2.1]; exact hk)]
      rfl
    · cases hl
  · cases hl
theorem aa_kas_ok {k : Nat} (h : aa_ok s ν g lv st) (hi : aa_inv g) : aa_snd Φ ws (aa_kas pc s k) ν g (zz_as lv k pc st (aa_H g)) := aa_snd.go hi fun l hl => by
  unfold aa_kas at hl
  split at hl
  · rename_i f r hs
    split at hl
    · rename_i hk
      cases hl
      have hm := h.2.2.2.2
      rw [hs] at hm
      obtain ⟨w, q, rfl, h1, h2⟩ := aa_ms_ref hm
      refine ⟨pc, zz_st1 lv k (.ref w), q, ?_, aa_res0 (aa_wlv_ok h (aa_st1_ok h.2.2.2.1 k ⟨w, rfl, h1⟩) h2)⟩
      unfold zz_as
      dsimp only
      rw [if_pos (by rw [aa_ml_len h.2.2.2.1]; exact hk)]
      rfl
    · cases hl
  · rename_i f r hs
    split at hl
    · rename_i hk
      cases hl
      have hm := h.2.2.2.2
      rw [hs] at hm
      obtain ⟨q, rfl, h2⟩ := aa_ms_null hm
      refine ⟨pc, zz_st1 lv k .null, q, ?_, aa_res0 (aa_wlv_ok h (aa_st1_ok (a := (4, f)) h.2.2.2.1 k rfl) h2)⟩
      unfold zz_as
      dsimp only
      rw [if_pos (by rw [aa_ml_len h.2.2.2.1]; exact hk)]
      rfl
    · cases hl
  · cases hl
theorem aa_kii_ok {k : Nat} {n : Int} (h : aa_ok s ν g lv st) (hi : aa_inv g) : aa_snd Φ ws (aa_kii pc s k (Int32.ofInt n).toInt) ν g (match zz_ld lv k with
      | some (.int a) => if k < lv.length then zz_go pc (zz_st1 lv k (.int (a + Int32.ofInt n))) st (aa_H g) else none
      | _ => none) := aa_snd.go hi fun l hl => by
  unfold aa_kii at hl
  split at hl
  · rename_i f hk
    obtain ⟨w, h1, a, rfl, h2⟩ := aa_ml_get h.2.2.2.1 hk
    have e : zz_ld lv k = some (.int a) := by unfold zz_ld; rw [h1]
    rw [e]
    dsimp only
    have hr := aa_ar_ok (pc := 0) h h.2.2.2.2 (aa_plus_ev (n := (Int32.ofInt n).toInt) h2) (w := a + Int32.ofInt n) (Int32.toInt_add _ _)
    obtain ⟨s', ρ, hm, hs⟩ := hr
    have hm : (0, s') = (0, aa_ar s s.2.2.2 (aa_plus f (Int32.ofInt n).toInt)) := List.mem_singleton.mp hm
    cases hm
    obtain ⟨b, q, e1, e2, s2, ρ2, e3, e4⟩ := aa_kis_at hs hl
    cases e1
    rw [if_pos e2]
    exact ⟨_, _, _, rfl, s2, ρ ++ ρ2, e3, by rw [← List.append_assoc]; exact e4⟩
  · cases hl
theorem aa_ksw_ok {sw : List (Int × Nat)} {x : Nat} {z : Option zz_O} (h : aa_ok s ν g lv st) (hi : aa_inv g) (hz : ∀ a r, st = .int a :: r → z = zz_go (zz_sw sw x a.toInt) lv r (aa_H g)) : aa_snd Φ ws (aa_ksw s sw x) ν g z := aa_snd.go hi fun l hl => by
  obtain ⟨a, r, w, q, rfl, h1, h2, h3⟩ := aa_w1_ok h hl
  refine ⟨_, _, _, hz w q rfl, ?_⟩
  have hw := aa_wst_ok h h3
  split at h1
  · rename_i h0
    cases h1
    rw [aa_ev_nil h0 h2]
    exact aa_res0 hw
  · cases h1
    have key : ∀ (sw : List (Int × Nat)), zz_sw sw x w.toInt = x ∨ ∃ q ∈ sw, q.1 = w.toInt ∧ q.2 = zz_sw sw x w.toInt := fun sw => by
      induction sw with
      | nil => exact .inl rfl
      | cons q sw ih =>
        obtain ⟨k, t⟩ := q
        unfold zz_sw
        split
        · rename_i e
          exact .inr ⟨(k, t), List.mem_cons_self, e.symm, rfl⟩
        · rcases ih with e | ⟨q, hq, e1, e2⟩
          · exact .inl e
          · exact .inr ⟨q, List.mem_cons_of_mem _ hq, e1, e2⟩
    rcases key sw with e | ⟨q, hq, e1, e2⟩
    · rw [e]
      exact ⟨_, [], List.mem_append.mpr (.inr (List.mem_singleton.mpr rfl)), by rw [List.append_nil]; exact hw⟩
    · obtain ⟨s', e3, k⟩ := aa_as2_ok hw (f := aa_plus a (-q.1)) (by rw [aa_plus_ev h2, e1, Int.add_right_neg])
      refine ⟨s', [], List.mem_append.mpr (.inl (List.mem_flatMap.mpr ⟨q, hq, List.mem_map.mpr ⟨s', by rw [e3]; exact List.mem_cons_self, by rw [e2]⟩⟩)), by rw [List.append_nil]; exact k⟩
theorem aa_pr_ok (h : aa_ok s ν g lv st) {l : List aa_A} {q : List Value} (hq : aa_ms ν l q) {gr k : Nat} (hg : gr ≠ 0) (hk : aa_gc k = gr) : aa_res [(pc, aa_pr s l gr)] ν g pc lv (.ref k :: q) := by
  have hb : k ≤ 553 := (aa_fit_at (by rw [hk]; exact hg)).1
  have hn := aa_ok_new h (lo := 0) (hi := 553) (v := (k : Int)) (gr := gr) (by omega) (by omega) (fun _ => ⟨by omega, hk⟩)
  exact aa_res1 ⟨hn.1, hn.2.1, hn.2.2.1, hn.2.2.2.1, ⟨⟨Nat.succ_ne_zero _, k, rfl, aa_ev_new h.1⟩, aa_ms_app hq⟩⟩
theorem aa_kgf_ok {x y : Nat} (h : aa_ok s ν g lv st) (hi : aa_inv g) : aa_snd Φ ws (aa_kgf (pc + 3) x y s) ν g (zz_get x y pc lv st (aa_H g)) := aa_snd.go hi fun l hl => by
  obtain ⟨f, r, k, q, rfl, h1, h2, h3⟩ := aa_wr_ok h hl
  split at h1
  · cases h1
  · rename_i hg
    have hg : aa_gp s.1.1 f ≠ 0 := fun z => hg (by rw [z]; rfl)
    have hgc := aa_gp_ok h.1 h2 hg
    have hk0 := (aa_fit_at (k := k) (by rw [hgc]; exact hg)).2.1
    split at h1
    · rename_i c n ts hgi
      split at h1
      · rename_i hc
        have e := Nat.eq_of_beq_eq_true hc
        subst e
        obtain ⟨fs, hly, hob, hsl⟩ := aa_obj g (k := k) (by rw [hgc]; exact hg) (by rw [hgc]; exact hgi)
        have hy := aa_slots_ok hsl y
        obtain ⟨k', rfl⟩ : ∃ k', k = k' + 1 := ⟨k - 1, by omega⟩
        have hz : ∀ w, fs[y]? = some w → zz_get c y pc lv (.ref (k' + 1) :: q) (aa_H g) = (match w with
          | none => zz_go (pc + 3) lv (.int (g (k' + 1) y) :: q) (aa_H g)
          | some p => zz_go (pc + 3) lv (zz_val p :: q) (aa_H g)) := fun w hw => by
          unfold zz_get
          dsimp only
          rw [hob]
          dsimp only
          rw [hw]
          cases w <;> rfl
        split at h1
        · rename_i hts
          split at h1
          · rename_i f2 s' hld
            cases h1
            obtain ⟨hs2, ρ, k1, k2⟩ := aa_ld_at (aa_wst_ok h h3) hi hld (j := y) h2 aa_c_ev (by rw [hgc]; exact hg)
            refine ⟨_, _, _, hz none (hy.1 hts), aa_res1 (ρ := ρ) ?_⟩
            refine aa_pi_ok k1 ?_ k2
            exact aa_ms_app h3
          · cases h1
        · rename_i t hts
          obtain ⟨p, hp, hpg⟩ := hy.2 t hts
          split at h1
          · rename_i hf
            have hfk := aa_ev_nil hf h2
            have hkn : f.1.toNat = k' + 1 := by omega
            rw [hkn, hly] at h1
            dsimp only at h1
            rw [hp] at h1
            cases h1
            exact ⟨_, _, _, hz _ hp, aa_res0 (aa_wst_ok h ⟨⟨Nat.succ_ne_zero _, p, rfl, aa_c_ev⟩, h3⟩)⟩
          · cases h1
            exact ⟨_, _, _, hz _ hp, aa_pr_ok h h3 (Nat.succ_ne_zero t) hpg⟩
        · cases h1
      · cases h1
    · cases h1
theorem aa_kpf_ok (hG : aa_good Φ fr hk) {x y u : Nat} (h : aa_ok s ν g lv st) (hi : aa_inv g) : aa_snd Φ ws (aa_kpf ws fr hk (pc + 3) x y u s) ν g (zz_put x y u pc lv st (aa_H g)) := fun l hl => by
  unfold aa_kpf at hl
  split at hl
  · rename_i a f r hst
    have hm := h.2.2.2.2
    rw [hst] at hm
    obtain ⟨v, q0, rfl, h1, hm2⟩ := aa_ms_int hm
    obtain ⟨k, q, rfl, h2, h3⟩ := aa_ms_ref hm2
    split at hl
    · cases hl
    · rename_i hg
      have hg : aa_gp s.1.1 f ≠ 0 := fun z => hg (by rw [z]; rfl)
      have hgc := aa_gp_ok h.1 h2 hg
      have hk0 := (aa_fit_at (k := k) (by rw [hgc]; exact hg)).2.1
      split at hl
      · rename_i c n ts hgi
        split at hl
        · rename_i hc
          obtain ⟨hc, hts, hu⟩ := hc
          have e := Nat.eq_of_beq_eq_true hc
          subst e
          obtain ⟨fs, hly, hob, hsl⟩ := aa_obj g (k := k) (by rw [hgc]; exact hg) (by rw [hgc]; exact hgi)
          have hy := (aa_slots_ok hsl y).1 hts
          obtain ⟨k', rfl⟩ : ∃ k', k = k' + 1 := ⟨k - 1, by omega⟩
          split at hl
          · rename_i s' hsto
            cases hl
            obtain ⟨e1, e2, e3, e4, e5⟩ := aa_sto_ok hG (aa_wst_ok h h3) hi hsto (j := y) h2 aa_c_ev h1
            have b1 := aa_lo_ok h.1 h.2.1 h1
            have b2 := aa_hi_ok h.1 h.2.1 h1
            have hu2 : u = 0 ∨ (u = 1 ∧ (v = 0 ∨ v = 1)) := by
              rcases hu with hu | ⟨hu, u1, u2⟩
              · exact .inl hu
              · refine .inr ⟨hu, ?_⟩
                rcases (show v.toInt = 0 ∨ v.toInt = 1 by omega) with z | z
                · exact .inl (Int32.toInt_inj.mp z)
                · exact .inr (Int32.toInt_inj.mp z)
            refine ⟨pc + 3, lv, q, _, ?_, aa_res0 e2, e3, e4, e5⟩
            unfold zz_put
            dsimp only
            rw [hob]
            dsimp only
            rw [hy]
            dsimp only
            rw [if_pos hu2]
            rfl
          · cases hl
        · cases hl
      · cases hl
  · cases hl
theorem aa_nat_of {i : Int32} {lo hi n : Int} (h1 : lo ≤ i.toInt) (h2 : i.toInt ≤ hi) (h3 : 0 ≤ lo) (h4 : hi < n) : ((i.toNatClampNeg : Nat) : Int) = i.toInt ∧ ∀ m : Nat, (m : Int) = n → zz_inb i m = true ∧ i.toNatClampNeg < m := by
  have e : i.toNatClampNeg = i.toInt.toNat := rfl
  have e2 : ((i.toNatClampNeg : Nat) : Int) = i.toInt := by rw [e]; omega
  refine ⟨e2, fun m hm => ⟨decide_eq_true ?_, by omega⟩⟩
  rintro (q | q)
  · have := Int32.lt_iff_toInt_lt.mp q
    rw [show (0 : Int32).toInt = 0 from rfl] at this
    omega
  · omega
theorem aa_kil_ok {b : Bool} (h : aa_ok s ν g lv st) (hi : aa_inv g) : aa_snd Φ ws (aa_kil (pc + 1) b s) ν g (if b = true then zz_bal pc lv st (aa_H g) else zz_ial none pc lv st (aa_H g)) := aa_snd.go hi fun l hl => by
  unfold aa_kil at hl
  split at hl
  · rename_i i f r hst
    have hm := h.2.2.2.2
    rw [hst] at hm
    obtain ⟨v, q0, rfl, h1, hm2⟩ := aa_ms_int hm
    obtain ⟨k, q, rfl, h2, h3⟩ := aa_ms_ref hm2
    split at hl
    · cases hl
    · rename_i hg
      have hg : aa_gp s.1.1 f ≠ 0 := fun z => hg (by rw [z]; rfl)
      have hgc := aa_gp_ok h.1 h2 hg
      have hk0 := (aa_fit_at (k := k) (by rw [hgc]; exact hg)).2.1
      split at hl
      · rename_i t n ts hgi
        split at hl
        · rename_i hc
          obtain ⟨hc, c1, c2⟩ := hc
          obtain ⟨hly, hlay, har, hno⟩ := aa_arr g (k := k) (by rw [hgc]; exact hg) (by rw [hgc]; exact hgi)
          obtain ⟨k', rfl⟩ : ∃ k', k = k' + 1 := ⟨k - 1, by omega⟩
          obtain ⟨n1, n2⟩ := aa_nat_of (aa_lo_ok h.1 h.2.1 h1) (aa_hi_ok h.1 h.2.1 h1) c1 c2
          obtain ⟨n2, n3⟩ := n2 n rfl
          split at hl
          · rename_i f2 s' hld
            cases hl
            obtain ⟨hs2, ρ, k1, k2⟩ := aa_ld_at (aa_wst_ok h h3) hi hld (j := v.toNatClampNeg) h2 (by rw [n1]; exact h1) (by rw [hgc]; exact hg)
            refine ⟨pc + 1, lv, .int (g (k' + 1) v.toNatClampNeg) :: q, ?_, aa_res1 (ρ := ρ) (aa_pi_ok k1 (aa_ms_app h3) k2)⟩
            cases b with
            | true =>
              rw [if_pos rfl]
              unfold zz_bal
              dsimp only
              have hc : (Nat.beq t 1 || Nat.beq t 2) = true := hc
              rw [Bool.or_eq_true] at hc
              rcases hc with hc | hc <;> have e := Nat.eq_of_beq_eq_true hc <;> subst e
              · rw [har]
                dsimp only
                rw [if_pos n2]
                rfl
              · rw [har, hno 1 (by decide)]
                dsimp only
                rw [if_pos n2]
                rfl
            | false =>
              rw [if_neg (by decide)]
              have e := Nat.eq_of_beq_eq_true hc
              subst e
              unfold zz_ial
              dsimp only
              rw [har]
              dsimp only
              rw [if_pos n2]
              rfl
          · cases hl
        · cases hl
      · cases hl
  · cases hl
theorem aa_kia_ok (hG : aa_good Φ fr hk) (h : aa_ok s ν g lv st) (hi : aa_inv g) : aa_snd Φ ws (aa_kia ws fr hk (pc + 1) s) ν g (zz_ias pc lv st (aa_H g)) := fun l hl => by
  unfold aa_kia at hl
  split at hl
  · rename_i a i f r hst
    have hm := h.2.2.2.2
    rw [hst] at hm
    obtain ⟨w, q1, rfl, h0, hm1⟩ := aa_ms_int hm
    obtain ⟨v, q0, rfl, h1, hm2⟩ := aa_ms_int hm1
    obtain ⟨k, q, rfl, h2, h3⟩ := aa_ms_ref hm2
    split at hl
    · cases hl
    · rename_i hg
      have hg : aa_gp s.1.1 f ≠ 0 := fun z => hg (by rw [z]; rfl)
      have hgc := aa_gp_ok h.1 h2 hg
      have hk0 := (aa_fit_at (k := k) (by rw [hgc]; exact hg)).2.1
      split at hl
      · rename_i t n ts hgi
        split at hl
        · rename_i hc
          obtain ⟨hc, c1, c2⟩ := hc
          subst hc
          obtain ⟨hly, hlay, har, hno⟩ := aa_arr g (k := k) (by rw [hgc]; exact hg) (by rw [hgc]; exact hgi)
          obtain ⟨k', rfl⟩ : ∃ k', k = k' + 1 := ⟨k - 1, by omega⟩
          obtain ⟨n1, n2⟩ := aa_nat_of (aa_lo_ok h.1 h.2.1 h1) (aa_hi_ok h.1 h.2.1 h1) c1 c2
          obtain ⟨n2, n3⟩ := n2 n rfl
          split at hl
          · rename_i s' hsto
            cases hl
            obtain ⟨e1, e2, e3, e4, e5⟩ := aa_sto_ok hG (aa_wst_ok h h3) hi hsto (j := v.toNatClampNeg) h2 (by rw [n1]; exact h1) h0
            refine ⟨pc + 1, lv, q, _, ?_, aa_res0 e2, e3, e4, e5⟩
            unfold zz_ias
            dsimp only
            rw [har]
            dsimp only
            rw [if_pos n2]
            rfl
          · cases hl
        · cases hl
      · cases hl
  · cases hl
theorem aa_nar_b (v : Int32) : 0 ≤ (vp_nar .boolean v).toInt ∧ (vp_nar .boolean v).toInt ≤ 1 := by
  have e : vp_nar .boolean v = v &&& 1 := rfl
  rw [e]
  exact aa_and_le v 1 (by decide)
theorem aa_nar_y (v : Int32) : -128 ≤ (vp_nar .byte v).toInt ∧ (vp_nar .byte v).toInt ≤ 127 := by
  have h1 := v.toInt8.le_toInt
  have h2 := v.toInt8.toInt_lt
  rw [vp_nar_byte, Int8.toInt_toInt32]
  omega
theorem aa_kba_ok (hG : aa_good Φ fr hk) (h : aa_ok s ν g lv st) (hi : aa_inv g) : aa_snd Φ ws (aa_kba ws fr hk (pc + 1) s) ν g (zz_bas pc lv st (aa_H g)) := fun l hl => by
  unfold aa_kba at hl
  split at hl
  · rename_i a i f r hst
    have hm := h.2.2.2.2
    rw [hst] at hm
    obtain ⟨w, q1, rfl, h0, hm1⟩ := aa_ms_int hm
    obtain ⟨v, q0, rfl, h1, hm2⟩ := aa_ms_int hm1
    obtain ⟨k, q, rfl, h2, h3⟩ := aa_ms_ref hm2
    split at hl
    · cases hl
    · rename_i hg
      have hg : aa_gp s.1.1 f ≠ 0 := fun z => hg (by rw [z]; rfl)
      have hgc := aa_gp_ok h.1 h2 hg
      have hk0 := (aa_fit_at (k := k) (by rw [hgc]; exact hg)).2.1
      split at hl
      · rename_i t n ts hgi
        split at hl
        · rename_i hc
          obtain ⟨hc, c1, c2⟩ := hc
          obtain ⟨hly, hlay, har, hno⟩ := aa_arr g (k := k) (by rw [hgc]; exact hg) (by rw [hgc]; exact hgi)
          obtain ⟨k', rfl⟩ : ∃ k', k = k' + 1 := ⟨k - 1, by omega⟩
          obtain ⟨n1, n2⟩ := aa_nat_of (aa_lo_ok h.1 h.2.1 h1) (aa_hi_ok h.1 h.2.1 h1) c1 c2
          obtain ⟨n2, n3⟩ := n2 n rfl
          split at hl
          · rename_i s' hsto
            cases hl
            rcases hc with rfl | rfl
            · have b := aa_nar_b w
              have hn := aa_ok_new (aa_wst_ok h h3) b.1 b.2 (gr := 0) (fun z => absurd rfl z)
              obtain ⟨e1, e2, e3, e4, e5⟩ := aa_sto_ok hG hn hi hsto (j := v.toNatClampNeg) (aa_ev_app h2) (by rw [n1]; exact aa_ev_app h1) (aa_ev_new h.1)
              refine ⟨pc + 1, lv, q, _, ?_, aa_res1 e2, e3, e4, e5⟩
              unfold zz_bas
              dsimp only
              rw [har]
              dsimp only
              rw [if_pos n2]
              rfl
            · have b := aa_nar_y w
              have hn := aa_ok_new (aa_wst_ok h h3) b.1 b.2 (gr := 0) (fun z => absurd rfl z)
              obtain ⟨e1, e2, e3, e4, e5⟩ := aa_sto_ok hG hn hi hsto (j := v.toNatClampNeg) (aa_ev_app h2) (by rw [n1]; exact aa_ev_app h1) (aa_ev_new h.1)
              refine ⟨pc + 1, lv, q, _, ?_, aa_res1 e2, e3, e4, e5⟩
              unfold zz_bas
              dsimp only
              rw [har, hno 1 (by decide)]
              dsimp only
              rw [if_pos n2]
              rfl
          · cases hl
        · cases hl
      · cases hl
  · cases hl
theorem aa_kal_ok (h : aa_ok s ν g lv st) (hi : aa_inv g) : aa_snd Φ ws (aa_kal (pc + 1) s) ν g (zz_aal pc lv st (aa_H g)) := aa_snd.go hi fun l hl => by
  unfold aa_kal at hl
  split at hl
  · rename_i i f r hst
    have hm := h.2.2.2.2
    rw [hst] at hm
    obtain ⟨v, q0, rfl, h1, hm2⟩ := aa_ms_int hm
    obtain ⟨k, q, rfl, h2, h3⟩ := aa_ms_ref hm2
    split at hl
    · cases hl
    · rename_i hg
      have hg : aa_gp s.1.1 f ≠ 0 := fun z => hg (by rw [z]; rfl)
      have hgc := aa_gp_ok h.1 h2 hg
      have hk0 := (aa_fit_at (k := k) (by rw [hgc]; exact hg)).2.1
      split at hl
      · rename_i t n tg ts hgi
        split at hl
        · rename_i hc
          obtain ⟨htg, c1, c2⟩ := hc
          cases hl
          obtain ⟨rs, hra, hln, ht, hall⟩ := aa_rar g (k := k) (by rw [hgc]; exact hg) (by rw [hgc]; exact hgi)
          obtain ⟨k', rfl⟩ : ∃ k', k = k' + 1 := ⟨k - 1, by omega⟩
          obtain ⟨n1, n2⟩ := aa_nat_of (aa_lo_ok h.1 h.2.1 h1) (aa_hi_ok h.1 h.2.1 h1) c1 c2
          obtain ⟨n2, n3⟩ := n2 n rfl
          have hlt : v.toNatClampNeg < rs.length := by rw [hln]; exact n3
          obtain ⟨p, hp, hpg⟩ := hall _ (List.getElem_mem hlt)
          refine ⟨pc + 1, lv, .ref p :: q, ?_, aa_pr_ok h h3 htg hpg⟩
          unfold zz_aal
          dsimp only
          rw [hra]
          dsimp only
          rw [if_pos ⟨by rw [hln]; exact n2, ht⟩, List.getElem?_eq_getElem hlt, hp]
          rfl
        · cases hl
      · cases hl
  · cases hl
theorem aa_kle_ok (h : aa_ok s ν g lv st) (hi : aa_inv g) : aa_snd Φ ws (aa_kle (pc + 1) s) ν g (zz_len none pc lv st (aa_H g)) := aa_snd.go hi fun l hl => by
  obtain ⟨f, r, k, q, rfl, h1, h2, h3⟩ := aa_wr_ok h hl
  split at h1
  · cases h1
  · rename_i hg
    have hg : aa_gp s.1.1 f ≠ 0 := fun z => hg (by rw [z]; rfl)
    have hgc := aa_gp_ok h.1 h2 hg
    have hk0 := (aa_fit_at (k := k) (by rw [hgc]; exact hg)).2.1
    split at h1
    · rename_i t n ts hgi
      split at h1
      · rename_i ht
        cases h1
        obtain ⟨hly, hlay, har, hno⟩ := aa_arr g (k := k) (by rw [hgc]; exact hg) (by rw [hgc]; exact hgi)
        obtain ⟨k', rfl⟩ : ∃ k', k = k' + 1 := ⟨k - 1, by omega⟩
        refine ⟨pc + 1, lv, .int (Int32.ofNat n) :: q, ?_, aa_res0 (aa_pi_ok h h3 aa_c_ev)⟩
        unfold zz_len
        dsimp only
        rw [hlay]
        dsimp only
        rw [if_pos ht]
        rfl
      · cases h1
    · cases h1
end AL
