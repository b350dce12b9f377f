/-! A STEP OF THE LAW ON THE CLASS: the model, in mind, does the like; the states stay alike -/
def yLI (g : aa_G) : Prop := aa_inv g ∧ aa_Phi g ∧ lr_R g
def yIs (m : Nat) (as : List Value) (g : aa_G) (x : Int32) (g' : aa_G) : Prop := zz_fin none m (0, zz_in as (zz_nl m), [], aa_H g) (fun v h => v = some (.int x) ∧ h = aa_H g')
theorem yLI.step {mc mm : Nat} {as : List Value} {eq : Bool} {g : aa_G} {Kc Km : aa_K} {νc : List Int} (q : lq_ok eq mc mm as g) (ha : ∀ x ∈ as, yj_v x)
    (kc : zz_fin none mc (0, zz_in (.ref 1 :: as) (zz_nl mc), [], aa_H g) (aa_post aa_Phi Kc νc g))
    (km : ∀ g1, aa_inv g1 → aa_Phi g1 → ∃ ν, zz_fin none mm (0, zz_in (.ref 540 :: as) (zz_nl mm), [], aa_H g1) (aa_post aa_Phi Km ν g1)) (hm : lk_m Km.1.2.2 = true) :
    ∃ x y g1 g2, (eq = true → y = x) ∧ yIs mc (.ref 1 :: as) g x g1 ∧ yIs mm (.ref 540 :: as) g1 y g2 ∧ yLI g2 ∧ aa_fr Kc.1.2.2 g g1 ∧ aa_fr Km.1.2.2 g1 g2 ∧ (∀ k, k < 540 → g2 k = g1 k) ∧
      ∀ {X : yy_X} {h : zz_H}, yG h g → yy_fin X mc (0, zz_in (.ref 1 :: as) (zz_nl mc), [], h) (fun v h' => v = some (.int x) ∧ yG h' g2 ∧ yx yLow 0 0 h h') := by
  obtain ⟨n, p, v, h0, w, ⟨x, g1, rfl, rfl, qm⟩, ⟨g1', e1, i1, f1, r1, -⟩⟩ := zz_fin.both q kc
  cases ep_H e1
  obtain ⟨ν, k2⟩ := km g1 i1 f1
  obtain ⟨n2, p2, v2, h2, w2, ⟨y, g2, rfl, ey, rfl, i2, f2, r2, -⟩, ⟨g2', e2, -, -, r3, -⟩⟩ := zz_fin.both qm k2
  cases ep_H e2
  have hk : ∀ k, k < 540 → g2 k = g1 k := fun k hk => funext fun j => lk_me hm r3 hk j
  refine ⟨x, y, g1, g2, ey, ⟨n, p, _, _, w, rfl, rfl⟩, ⟨n2, p2, _, _, w2, rfl, rfl⟩, ⟨i2, f2, r2⟩, r1, r3, hk, fun {X h} G => ?_⟩
  have ha2 : ∀ z ∈ Value.ref 1 :: as, yj_v z := fun z hz => by
    rcases List.mem_cons.mp hz with e | e
    · rw [e]
      exact Nat.le_of_ble_eq_true rfl
    · exact ha z e
  have f : zz_fin none mc (0, zz_in (.ref 1 :: as) (zz_nl mc), [], aa_H g) (fun v h => ∃ g', h = aa_H g' ∧ (v = some (.int x) ∧ g' = g1)) := ⟨n, p, _, _, w, g1, rfl, rfl, rfl⟩
  refine (G.run ha2 f).mono fun v h' z => ?_
  obtain ⟨g', ⟨rfl, rfl⟩, G2, x2⟩ := z
  exact ⟨rfl, G2.g fun k hk2 => hk k (Nat.lt_succ_of_le hk2), x2⟩
