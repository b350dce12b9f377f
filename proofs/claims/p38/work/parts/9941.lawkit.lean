/-! THE LAW WITH THE STATES ALIKE: what a case of it needs -/
theorem zz_fin.xal {L : Nat} {xs : Nat → Int32} {m pc : Nat} {lv : zz_V} {h : zz_H} {φ : Option Value → zz_H → Prop} {i : Int32} {r : List Value} {x y u w : Nat} {vv : Value} {sw : List (Int × Nat)} (hT : zz_T m pc = some (.iaload, (x, y, u, w), vv, sw)) (hin : zz_inb i L = true) (kk : zz_fin (some (L, xs)) m (pc + 1, lv, .int (xs i.toNatClampNeg) :: r, h) φ) : zz_fin (some (L, xs)) m (pc, lv, .int i :: .ref 0 :: r, h) φ := by
  refine zz_fin.step1 hT ?_ kk
  show zz_ial (some (L, xs)) pc lv (.int i :: .ref 0 :: r) h = _
  unfold zz_ial
  dsimp only
  rw [if_pos hin]
  rfl
def lr_B : rq_Q := fun _ _ _ _ => True
theorem lr_cp : rq_cp lr_B := fun _ _ _ _ _ _ _ _ _ _ _ _ _ => trivial
theorem lr_bf : rq_bf lr_B := fun _ _ _ _ _ _ _ _ _ => trivial
theorem lr_bf2 : ∀ (gc gc' gm gm' : aa_G), cp_bl gc gc' 4 4 → (∀ q, q < 399 → (q = 2 ∨ 203 ≤ q) → gm' 541 q = gm 541 q) → lr_B gc gm 2 0 → lr_B gc' gm' 2 0 := fun _ _ _ _ _ _ _ => trivial
/-- the states of both sides are alike, and what is ended -/
def lr_R (g : aa_G) : Prop := rr_g (qb_s lr_B) g g ∧ g 1 14 = g 540 35
/-- the class's writes: nothing of the model -/
def lk_c (ws : aa_W) : Bool := [540, 541, 542, 543, 546, 553].all fun k => ws.all fun w => !(Nat.beq w.1 (aa_gc k))
/-- the model's writes: nothing of the class -/
def lk_m (ws : aa_W) : Bool := ((List.range 540).all fun k => ws.all fun w => !(Nat.beq w.1 (aa_gc k))) && ws.all fun w => !(Nat.beq w.1 (aa_gc 546))
theorem lk_ce {ws : aa_W} (h : lk_c ws = true) {g g' : aa_G} (hf : aa_fr ws g g') {k : Nat} (hk : k ∈ [540, 541, 542, 543, 546, 553]) (j : Nat) : g' k j = g k j := ko_ne hf (List.all_eq_true.mp h k hk) j
theorem lk_me {ws : aa_W} (h : lk_m ws = true) {g g' : aa_G} (hf : aa_fr ws g g') {k : Nat} (hk : k < 540) (j : Nat) : g' k j = g k j := by
  have h := (Bool.and_eq_true _ _ ▸ h : _ ∧ _).1
  exact ko_ne hf (List.all_eq_true.mp h k (List.mem_range.mpr hk)) j
theorem lk_mx {ws : aa_W} (h : lk_m ws = true) {g g' : aa_G} (hf : aa_fr ws g g') (j : Nat) : g' 546 j = g 546 j := by
  have h := (Bool.and_eq_true _ _ ▸ h : _ ∧ _).2
  exact ko_ne hf h j
/-- behind the class's run the model's cells are as before it: the states of before and behind are alike, class to model -/
theorem lk_mid {ws : aa_W} (h : lk_c ws = true) {g g1 : aa_G} (hi : aa_inv g) (hR : lr_R g) (hf : aa_fr ws g g1) : rr_g (qb_s lr_B) g g1 ∧ g 1 14 = g1 540 35 ∧ ∀ j, g1 546 j = g 546 j := by
  refine ⟨rr_m (qb_cp lr_cp) hi hR.1 (fun k j _ z => ?_), hR.2.trans (lk_ce h hf (by decide) 35).symm, fun j => lk_ce h hf (by decide) j⟩
  rcases z with ⟨rfl, -⟩ | rfl | rfl | rfl | ⟨rfl, -⟩ <;> exact lk_ce h hf (by decide) j
theorem lk_end {ws : aa_W} (h : lk_m ws = true) {g g1 g2 : aa_G} (hi : aa_inv g2) (hf : aa_fr ws g1 g2) (hR : rr_g (qb_s lr_B) g1 g2) (h14 : g1 1 14 = g2 540 35) (hx : ∀ j, g1 546 j = g 546 j) : lr_R g2 ∧ ∀ j, g2 546 j = g 546 j :=
  ⟨⟨rr_c (qb_cp lr_cp) hi hR (fun k j hk _ => lk_me h hf hk j), (lk_me h hf (by omega) 14).trans h14⟩, fun j => (lk_mx h hf j).trans (hx j)⟩
def lq_end (eq : Bool) (x : Int32) (g : aa_G) (v : Option Value) (h : zz_H) : Prop := ∃ y g2, v = some (.int y) ∧ (eq = true → y = x) ∧ h = aa_H g2 ∧ aa_inv g2 ∧ aa_Phi g2 ∧ lr_R g2 ∧ ∀ j, g2 546 j = g 546 j
/-- a call on the class, then the like on the model: the states stay alike; with 'true' the answers are the same -/
def lq_ok (eq : Bool) (mc mm : Nat) (as : List Value) (g : aa_G) : Prop := zz_fin none mc (0, zz_in (.ref 1 :: as) (zz_nl mc), [], aa_H g) (fun v h => ∃ x g1, v = some (.int x) ∧ h = aa_H g1 ∧ zz_fin none mm (0, zz_in (.ref 540 :: as) (zz_nl mm), [], aa_H g1) (lq_end eq x g))
theorem lq_mk {eq : Bool} {mc mm : Nat} {as : List Value} {g : aa_G} {wc wm : aa_W} {x y : Int32 × aa_G} (hi : aa_inv g) (hR : lr_R g)
    (c : zz_fin none mc (0, zz_in (.ref 1 :: as) (zz_nl mc), [], aa_H g) (fun v h => v = some (.int x.1) ∧ h = aa_H x.2 ∧ aa_inv x.2 ∧ aa_Phi x.2 ∧ aa_fr wc g x.2))
    (m : aa_inv x.2 → aa_Phi x.2 → zz_fin none mm (0, zz_in (.ref 540 :: as) (zz_nl mm), [], aa_H x.2) (fun v h => v = some (.int y.1) ∧ h = aa_H y.2 ∧ aa_inv y.2 ∧ aa_Phi y.2 ∧ aa_fr wm x.2 y.2))
    (hc : lk_c wc = true) (hm : lk_m wm = true)
    (mu : aa_inv x.2 → aa_Phi x.2 → rr_g (qb_s lr_B) g x.2 → g 1 14 = x.2 540 35 → aa_fr wc g x.2 → aa_fr wm x.2 y.2 → ((eq = true → x.1 = y.1) ∧ rr_g (qb_s lr_B) x.2 y.2) ∧ x.2 1 14 = y.2 540 35) : lq_ok eq mc mm as g := by
  refine zz_fin.mono c ?_
  rintro v h ⟨e1, e2, i1, p1, f1⟩
  refine ⟨x.1, x.2, e1, e2, zz_fin.mono (m i1 p1) ?_⟩
  rintro v h ⟨k1, k2, i2, p2, f2⟩
  obtain ⟨q1, q2, q3⟩ := lk_mid hc hi hR f1
  obtain ⟨⟨m1, m2⟩, m3⟩ := mu i1 p1 q1 q2 f1 f2
  obtain ⟨r1, r2⟩ := lk_end hm i2 f2 m2 m3 q3
  exact ⟨y.1, y.2, k1, fun z => (m1 z).symm, k2, i2, p2, r1, r2⟩
/-- that neither writes what is ended -/
def lk_e (wc wm : aa_W) : Bool := (wc.all fun w => !(Nat.beq w.1 (aa_gc 1)) || !(decide (w.2.1 ≤ ((14 : Nat) : Int)) && decide (((14 : Nat) : Int) ≤ w.2.2))) && (wm.all fun w => !(Nat.beq w.1 (aa_gc 540)) || !(decide (w.2.1 ≤ ((35 : Nat) : Int)) && decide (((35 : Nat) : Int) ≤ w.2.2)))
theorem lk_ee {wc wm : aa_W} (h : lk_e wc wm = true) {g g1 g2 : aa_G} (f1 : aa_fr wc g g1) (f2 : aa_fr wm g1 g2) (e : g 1 14 = g1 540 35) : g1 1 14 = g2 540 35 := by
  have h := (Bool.and_eq_true _ _ ▸ h : _ ∧ _)
  exact (ko_at f1 h.1).trans (e.trans (ko_at f2 h.2).symm)
theorem lq_mks {mc mm : Nat} {as : List Value} {g : aa_G} {wc wm : aa_W} {x y : Int32 × aa_G} (hi : aa_inv g) (hR : lr_R g)
    (c : zz_fin none mc (0, zz_in (.ref 1 :: as) (zz_nl mc), [], aa_H g) (fun v h => v = some (.int x.1) ∧ h = aa_H x.2 ∧ aa_inv x.2 ∧ aa_Phi x.2 ∧ aa_fr wc g x.2))
    (m : aa_inv x.2 → aa_Phi x.2 → zz_fin none mm (0, zz_in (.ref 540 :: as) (zz_nl mm), [], aa_H x.2) (fun v h => v = some (.int y.1) ∧ h = aa_H y.2 ∧ aa_inv y.2 ∧ aa_Phi y.2 ∧ aa_fr wm x.2 y.2))
    (hc : lk_c wc = true) (hm : lk_m wm = true) (he : lk_e wc wm = true)
    (mu : aa_inv x.2 → aa_Phi x.2 → rr_g (qb_s lr_B) g x.2 → x.1 = y.1 ∧ rr_g (qb_s lr_B) x.2 y.2) : lq_ok true mc mm as g :=
  lq_mk hi hR c m hc hm fun i1 p1 q1 q2 f1 f2 => ⟨⟨fun _ => (mu i1 p1 q1).1, (mu i1 p1 q1).2⟩, lk_ee he f1 f2 q2⟩
theorem lq_as {mc mm : Nat} {as : List Value} {g : aa_G} {x y : Int32} (hi : aa_inv g) (hφ : aa_Phi g) (hR : lr_R g) (c : zz_fin none mc (0, zz_in (.ref 1 :: as) (zz_nl mc), [], aa_H g) (fun v h => v = some (.int x) ∧ h = aa_H g)) (m : zz_fin none mm (0, zz_in (.ref 540 :: as) (zz_nl mm), [], aa_H g) (fun v h => v = some (.int y) ∧ h = aa_H g)) (e : x = y) : lq_ok true mc mm as g := by
  refine zz_fin.mono c ?_
  rintro v h ⟨e1, e2⟩
  refine ⟨x, g, e1, e2, zz_fin.mono m ?_⟩
  rintro v h ⟨k1, k2⟩
  exact ⟨y, g, k1, fun _ => e.symm, k2, hi, hφ, hR, fun _ => rfl⟩
theorem lq_any {eq : Bool} {mc mm : Nat} {as : List Value} {g : aa_G} (h : lq_ok true mc mm as g) : lq_ok eq mc mm as g := by
  refine zz_fin.mono h ?_
  rintro v h ⟨x, g1, e1, e2, k⟩
  refine ⟨x, g1, e1, e2, zz_fin.mono k ?_⟩
  rintro v h ⟨y, g2, k1, k2, k3⟩
  exact ⟨y, g2, k1, fun _ => k2 rfl, k3⟩
