/-! THE TAPE: what the class's tape of bytes holds, c of them so far -/
def yTp (g : aa_G) (b : Nat → Int32) (c : Nat) : Prop := g 454 0 = Int32.ofNat c ∧ ∀ i, i < c → g 455 i = b i
theorem yTp_args (f : Nat → Int32) {i : Nat} (h : i < 5) : fd_args (f 0) (f 1) (f 2) (f 3) (f 4) i = f i := by
  match i, h with
  | 0, _ => rfl
  | 1, _ => rfl
  | 2, _ => rfl
  | 3, _ => rfl
  | 4, _ => rfl
/-- twenty more, p of them the text's -/
theorem yTp.feed {g g' : aa_G} {b : Nat → Int32} {c p : Nat} (hb : ∀ i, yb_B (b i)) (h0 : ∀ i, p ≤ i → i < 20 → b (c + i) = 0) (h : yTp g b c)
    (s : fd_st cf_byte 455 454 0 g g' c 5 (fd_args (yb_row (fun q => b (c + q)) p 0) (yb_row (fun q => b (c + q)) p 1) (yb_row (fun q => b (c + q)) p 2) (yb_row (fun q => b (c + q)) p 3) (yb_row (fun q => b (c + q)) p 4))) :
    yTp g' b (c + 20) := by
  refine ⟨s.1, fun i hi => ?_⟩
  by_cases hl : i < c
  · rw [s.2.2 455 i (fun e => absurd e.1 (by decide)) (by omega)]
    exact h.2 i hl
  · have e : i = c + (i - c) := by omega
    have k1 := s.2.1 (i - c) (by omega)
    rw [← e] at k1
    rw [k1, yTp_args (yb_row (fun q => b (c + q)) p) (show (i - c) / 4 < 5 by omega), yb_row.read (fun q => hb (c + q)) (show i - c < 20 by omega)]
    by_cases q : i - c < p
    · rw [if_pos q]
      show b (c + (i - c)) = b i
      rw [← e]
    · rw [if_neg q]
      have k2 := h0 (i - c) (by omega) (by omega)
      rw [← e] at k2
      exact k2.symm
/-- a call of feed, as the class answers it, writes these -/
theorem yTp.call {g g1 : aa_G} {x : Int32} {b : Nat → Int32} {c p : Nat} (hc : c + 20 ≤ 500) (hb : ∀ i, yb_B (b i)) (h0 : ∀ i, p ≤ i → i < 20 → b (c + i) = 0) (h : yTp g b c)
    (r : yIs 11 [.ref 1, .int (yb_row (fun q => b (c + q)) p 0), .int (yb_row (fun q => b (c + q)) p 1), .int (yb_row (fun q => b (c + q)) p 2), .int (yb_row (fun q => b (c + q)) p 3), .int (yb_row (fun q => b (c + q)) p 4)] g x g1) :
    yTp g1 b (c + 20) := by
  obtain ⟨_, _, _, _, _, ⟨-, e⟩, ⟨g', e1, q⟩⟩ := zz_fin.both r (fd_feedc (by omega) h.1)
  rw [e] at e1
  have e2 : g1 = g' := ep_H e1
  rw [e2]
  rcases q with q | q
  · exact absurd q.1 (by omega)
  · exact yTp.feed hb h0 h q.2
