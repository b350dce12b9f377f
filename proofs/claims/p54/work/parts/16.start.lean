/-! WHAT STANDS AT THE START: texts, digits, statics (written by wip/p54/mk16.py: the places of what the Statement gives) -/
-- ===== end of PART A; then your names; then what follows =====
/-! THE CLAIM OUT OF ONE WALK OF THE LAW'S BODY. Your part is whole_start (and what it stands on); all else here is the same for every law, but numbers. -/
def R_law : String := "UnequalHoursLaw"
def lw_P (b : Addr) (xs : List Int32) (args : Array Value) (s : State) : Prop := args = #[.ref b] ∧ s.IntsAt b xs ∧ xs.length ≤ 260 ∧ (Jvm.Cond.and given_1 narrow_1).before args s = true
def lw_Q (_ : Array Value) (s : State) (o : Outcome) (t : State) : Prop := o = .returned (some (.int 1)) ∧ Framed s o t [] 993475 6121823
def lw_Z (below : List Frame) (a : Array Value) (s : State) : State → Prop := fun t => ∃ o, t.status = .running ∧ Ended t below o ∧ lw_Q a s o t
/-- the law's own end, with 1 on the stack, nothing written that was there before, its room as the claim has it -/
theorem lw_ret {p : Program} {l : Launch} {e : Env} {s : State} {m : MethodId} {below : List Frame} {meth : Method} {c : Code} {b : Nat} (hx : p.tables.exec = Jvm.exec) (hb : c.code = code) (hr : meth.sig.returnType = ret) (hlocks : meth.locks = false) {pc : Nat} {H : Heap} {ls : Array Slot} (hdg : decode code pc = .ok (.ireturn, 1)) : W p l e room_1 s m #[Value.ref b] below meth c H [] 993475 6121823 (lw_Z below #[Value.ref b] s) (F0 m pc ls [.int 1]) := by
  intro T hT X
  obtain ⟨fs, hret, hrun, hended, hW, hframe⟩ := X.leave (v := some (.int 1)) (hlocks := hlocks) (fun h => by rw [hr] at h; cases h)
  have hmeth' : T.vm.method? m = some meth := X.method'
  refine ⟨T.setFrames fs, ?_, .returned (some (.int 1)), hrun, hended, rfl, ⟨_, rfl⟩, hW, hframe⟩
  jvm_step X.here [X.here.top, hx, hb, hdg, hmeth', hr, ret, narrow_b1]
  (try refine ⟨rfl, ?_⟩); (try refine ⟨rfl, ?_⟩)
  first | (intro acts; rw [hret _ acts rfl rfl rfl]) | rw [hret _ _ rfl rfl rfl]
  exact Steps.refl _
/-- what holds at the law's entry: the machine, the code, the tables' words (any of lw_tbl by 'hts w (by decide +kernel)'), the script of L ints xs at the cell b, what the Statement gives of the start (any of its parts by flat_of_before) -/
def lw_At (p : Program) (s : State) (m : MethodId) (meth : Method) (c : Code) (b L : Nat) (xs : Nat → Int32) : Prop :=
  p.tables.exec = Jvm.exec ∧ c.code = code ∧ meth.sig.returnType = ret ∧ c.maxLocals = 28 ∧ s.vm.findClass R_law = some m.cls ∧ (∀ w ∈ lw_tbl, w.before #[Value.ref b] s = true) ∧ va_X b L xs s s.heap ∧ b < s.heap.size ∧ meth.locks = false ∧ (Jvm.Cond.and given_1 narrow_1).before #[Value.ref b] s = true
def yy_nf : List Jvm.Cond := flatC (Jvm.Cond.and given_1 narrow_1)
def yy_at (k : Nat) (c : Jvm.Cond) : Bool := decide (yy_nf[k]? = some c)
theorem yy_at_of {args : Array Value} {s : State} (h : (Jvm.Cond.and given_1 narrow_1).before args s = true) {k : Nat} {c : Jvm.Cond} (hk : yy_at k c = true) : c.before args s = true := flat_of_before _ h c (List.mem_of_getElem? (of_decide_eq_true hk))
def yy_tm (i : Nat) : Jvm.Term := Jvm.Term.string (yy_sr i).1 (yy_sr i).2
def yy_np (i : Nat) : Nat × Nat × Nat × Nat × List Nat := match i with
  | 0 => (267, 268, 269, 270, [])
  | 1 => (271, 272, 273, 274, [275])
  | 2 => (277, 278, 279, 280, [281])
  | 3 => (284, 285, 286, 287, [288])
  | 4 => (292, 293, 294, 295, [296])
  | 5 => (301, 302, 303, 304, [305])
  | 6 => (311, 312, 313, 314, [315, 316, 317, 318, 319])
  | 7 => (337, 338, 339, 340, [341, 342, 343, 344])
  | 8 => (400, 401, 402, 403, [404])
  | 9 => (417, 418, 419, 420, [421, 422, 423])
  | 10 => (437, 438, 439, 440, [441, 442])
  | 11 => (457, 458, 459, 460, [461, 462, 463])
  | 12 => (479, 480, 481, 482, [483, 484])
  | 13 => (501, 502, 503, 504, [505])
  | 14 => (523, 524, 525, 526, [527])
  | 15 => (546, 547, 548, 549, [550, 551, 552, 553, 554])
  | 16 => (574, 575, 576, 577, [578, 579, 580])
  | 17 => (601, 602, 603, 604, [605])
  | 18 => (627, 628, 629, 630, [631])
  | 19 => (654, 655, 656, 657, [658])
  | _ => (682, 683, 684, 685, [686])
abbrev yy_tv (t : Jvm.Term) : Jvm.Term := .field t "java/lang/String" "value" "[B"
def yy_ckS (i : Nat) : Bool := yy_at (yy_np i).1 (.exactly (yy_tm i) "java/lang/String") && (yy_at (yy_np i).2.1 (.eq (.field (yy_tm i) "java/lang/String" "coder" "B") (.int 0)) && (yy_at (yy_np i).2.2.1 (.arrayOf (yy_tv (yy_tm i)) .byte) && (yy_at (yy_np i).2.2.2.1 (.eq (.length (yy_tv (yy_tm i))) (.int (Int32.ofNat (yy_by i).length))) && (decide ((yy_by i).length < 100) && (List.range (yy_by i).length).all fun j => yy_at ((yy_np i).2.2.2.2.getD j 0) (.eq (.elem (yy_tv (yy_tm i)) (.int (Int32.ofNat j))) (.int ((yy_by i).getD j 0)))))))
set_option maxRecDepth 100000 in
set_option maxHeartbeats 4000000 in
theorem yy_ckS0 : yy_ckS 0 = true := by decide +kernel
set_option maxRecDepth 100000 in
set_option maxHeartbeats 4000000 in
theorem yy_ckS1 : yy_ckS 1 = true := by decide +kernel
set_option maxRecDepth 100000 in
set_option maxHeartbeats 4000000 in
theorem yy_ckS2 : yy_ckS 2 = true := by decide +kernel
set_option maxRecDepth 100000 in
set_option maxHeartbeats 4000000 in
theorem yy_ckS3 : yy_ckS 3 = true := by decide +kernel
set_option maxRecDepth 100000 in
set_option maxHeartbeats 4000000 in
theorem yy_ckS4 : yy_ckS 4 = true := by decide +kernel
set_option maxRecDepth 100000 in
set_option maxHeartbeats 4000000 in
theorem yy_ckS5 : yy_ckS 5 = true := by decide +kernel
set_option maxRecDepth 100000 in
set_option maxHeartbeats 4000000 in
theorem yy_ckS6 : yy_ckS 6 = true := by decide +kernel
set_option maxRecDepth 100000 in
set_option maxHeartbeats 4000000 in
theorem yy_ckS7 : yy_ckS 7 = true := by decide +kernel
set_option maxRecDepth 100000 in
set_option maxHeartbeats 4000000 in
theorem yy_ckS8 : yy_ckS 8 = true := by decide +kernel
set_option maxRecDepth 100000 in
set_option maxHeartbeats 4000000 in
theorem yy_ckS9 : yy_ckS 9 = true := by decide +kernel
set_option maxRecDepth 100000 in
set_option maxHeartbeats 4000000 in
theorem yy_ckS10 : yy_ckS 10 = true := by decide +kernel
set_option maxRecDepth 100000 in
set_option maxHeartbeats 4000000 in
theorem yy_ckS11 : yy_ckS 11 = true := by decide +kernel
set_option maxRecDepth 100000 in
set_option maxHeartbeats 4000000 in
theorem yy_ckS12 : yy_ckS 12 = true := by decide +kernel
set_option maxRecDepth 100000 in
set_option maxHeartbeats 4000000 in
theorem yy_ckS13 : yy_ckS 13 = true := by decide +kernel
set_option maxRecDepth 100000 in
set_option maxHeartbeats 4000000 in
theorem yy_ckS14 : yy_ckS 14 = true := by decide +kernel
set_option maxRecDepth 100000 in
set_option maxHeartbeats 4000000 in
theorem yy_ckS15 : yy_ckS 15 = true := by decide +kernel
set_option maxRecDepth 100000 in
set_option maxHeartbeats 4000000 in
theorem yy_ckS16 : yy_ckS 16 = true := by decide +kernel
set_option maxRecDepth 100000 in
set_option maxHeartbeats 4000000 in
theorem yy_ckS17 : yy_ckS 17 = true := by decide +kernel
set_option maxRecDepth 100000 in
set_option maxHeartbeats 4000000 in
theorem yy_ckS18 : yy_ckS 18 = true := by decide +kernel
set_option maxRecDepth 100000 in
set_option maxHeartbeats 4000000 in
theorem yy_ckS19 : yy_ckS 19 = true := by decide +kernel
set_option maxRecDepth 100000 in
set_option maxHeartbeats 4000000 in
theorem yy_ckS20 : yy_ckS 20 = true := by decide +kernel
theorem yy_ckSs : ∀ i, i < 21 → yy_ckS i = true := lt_s (lt_s (lt_s (lt_s (lt_s (lt_s (lt_s (lt_s (lt_s (lt_s (lt_s (lt_s (lt_s (lt_s (lt_s (lt_s (lt_s (lt_s (lt_s (lt_s (lt_s (lt_0) yy_ckS0) yy_ckS1) yy_ckS2) yy_ckS3) yy_ckS4) yy_ckS5) yy_ckS6) yy_ckS7) yy_ckS8) yy_ckS9) yy_ckS10) yy_ckS11) yy_ckS12) yy_ckS13) yy_ckS14) yy_ckS15) yy_ckS16) yy_ckS17) yy_ckS18) yy_ckS19) yy_ckS20
def yy_nd0 : List Nat := [12, 13, 14, 15, 16, 17, 18, 19, 20, 21, 22, 23, 24, 25, 26, 27, 28, 29, 30, 31, 32, 33, 34, 35, 36, 37, 38, 39, 40, 41, 42, 43, 44, 45, 46, 47, 48, 49, 50, 51, 52, 53, 54, 55, 56, 57, 58, 59, 60, 61, 62, 63, 64, 65, 66, 67, 68, 69, 70, 71, 72, 73, 74, 75, 76, 77, 78, 79, 80, 81, 82, 83, 84, 85, 86, 87, 88, 89, 90, 91, 92, 93, 94, 95, 96, 97, 98, 99, 100, 101, 102, 103, 104, 105, 106, 107, 108, 109, 110, 111]
abbrev yy_td0 : Jvm.Term := .static "java/lang/Integer" "DigitOnes" "[B"
set_option maxRecDepth 100000 in
set_option maxHeartbeats 4000000 in
theorem yy_ckd0 : (yy_at 10 (.arrayOf yy_td0 .byte) && yy_at 11 (.eq (.length yy_td0) (.int 100))) = true := by decide +kernel
set_option maxRecDepth 100000 in
set_option maxHeartbeats 4000000 in
theorem yy_cke0_0 : ((List.range 25).all fun j => yy_at (yy_nd0.getD (0 + j) 0) (.eq (.elem yy_td0 (.int (Int32.ofNat (0 + j)))) (.int ((yy_by 100).getD (0 + j) 0)))) = true := by decide +kernel
set_option maxRecDepth 100000 in
set_option maxHeartbeats 4000000 in
theorem yy_cke0_25 : ((List.range 25).all fun j => yy_at (yy_nd0.getD (25 + j) 0) (.eq (.elem yy_td0 (.int (Int32.ofNat (25 + j)))) (.int ((yy_by 100).getD (25 + j) 0)))) = true := by decide +kernel
set_option maxRecDepth 100000 in
set_option maxHeartbeats 4000000 in
theorem yy_cke0_50 : ((List.range 25).all fun j => yy_at (yy_nd0.getD (50 + j) 0) (.eq (.elem yy_td0 (.int (Int32.ofNat (50 + j)))) (.int ((yy_by 100).getD (50 + j) 0)))) = true := by decide +kernel
set_option maxRecDepth 100000 in
set_option maxHeartbeats 4000000 in
theorem yy_cke0_75 : ((List.range 25).all fun j => yy_at (yy_nd0.getD (75 + j) 0) (.eq (.elem yy_td0 (.int (Int32.ofNat (75 + j)))) (.int ((yy_by 100).getD (75 + j) 0)))) = true := by decide +kernel
theorem yy_cke0 {j : Nat} (hj : j < 100) : yy_at (yy_nd0.getD j 0) (.eq (.elem yy_td0 (.int (Int32.ofNat j))) (.int ((yy_by 100).getD j 0))) = true := by
  by_cases h0 : j < 25
  · have g := List.all_eq_true.mp yy_cke0_0 (j - 0) (List.mem_range.mpr (by omega))
    rwa [show 0 + (j - 0) = j by omega] at g
  by_cases h25 : j < 50
  · have g := List.all_eq_true.mp yy_cke0_25 (j - 25) (List.mem_range.mpr (by omega))
    rwa [show 25 + (j - 25) = j by omega] at g
  by_cases h50 : j < 75
  · have g := List.all_eq_true.mp yy_cke0_50 (j - 50) (List.mem_range.mpr (by omega))
    rwa [show 50 + (j - 50) = j by omega] at g
  have g := List.all_eq_true.mp yy_cke0_75 (j - 75) (List.mem_range.mpr (by omega))
  rwa [show 75 + (j - 75) = j by omega] at g
def yy_nd1 : List Nat := [115, 116, 117, 118, 119, 120, 121, 122, 123, 124, 125, 126, 127, 128, 129, 130, 131, 132, 133, 134, 135, 136, 137, 138, 139, 140, 141, 142, 143, 144, 145, 146, 147, 148, 149, 150, 151, 152, 153, 154, 155, 156, 157, 158, 159, 160, 161, 162, 163, 164, 165, 166, 167, 168, 169, 170, 171, 172, 173, 174, 175, 176, 177, 178, 179, 180, 181, 182, 183, 184, 185, 186, 187, 188, 189, 190, 191, 192, 193, 194, 195, 196, 197, 198, 199, 200, 201, 202, 203, 204, 205, 206, 207, 208, 209, 210, 211, 212, 213, 214]
abbrev yy_td1 : Jvm.Term := .static "java/lang/Integer" "DigitTens" "[B"
set_option maxRecDepth 100000 in
set_option maxHeartbeats 4000000 in
theorem yy_ckd1 : (yy_at 113 (.arrayOf yy_td1 .byte) && yy_at 114 (.eq (.length yy_td1) (.int 100))) = true := by decide +kernel
set_option maxRecDepth 100000 in
set_option maxHeartbeats 4000000 in
theorem yy_cke1_0 : ((List.range 25).all fun j => yy_at (yy_nd1.getD (0 + j) 0) (.eq (.elem yy_td1 (.int (Int32.ofNat (0 + j)))) (.int ((yy_by 101).getD (0 + j) 0)))) = true := by decide +kernel
set_option maxRecDepth 100000 in
set_option maxHeartbeats 4000000 in
theorem yy_cke1_25 : ((List.range 25).all fun j => yy_at (yy_nd1.getD (25 + j) 0) (.eq (.elem yy_td1 (.int (Int32.ofNat (25 + j)))) (.int ((yy_by 101).getD (25 + j) 0)))) = true := by decide +kernel
set_option maxRecDepth 100000 in
set_option maxHeartbeats 4000000 in
theorem yy_cke1_50 : ((List.range 25).all fun j => yy_at (yy_nd1.getD (50 + j) 0) (.eq (.elem yy_td1 (.int (Int32.ofNat (50 + j)))) (.int ((yy_by 101).getD (50 + j) 0)))) = true := by decide +kernel
set_option maxRecDepth 100000 in
set_option maxHeartbeats 4000000 in
theorem yy_cke1_75 : ((List.range 25).all fun j => yy_at (yy_nd1.getD (75 + j) 0) (.eq (.elem yy_td1 (.int (Int32.ofNat (75 + j)))) (.int ((yy_by 101).getD (75 + j) 0)))) = true := by decide +kernel
theorem yy_cke1 {j : Nat} (hj : j < 100) : yy_at (yy_nd1.getD j 0) (.eq (.elem yy_td1 (.int (Int32.ofNat j))) (.int ((yy_by 101).getD j 0))) = true := by
  by_cases h0 : j < 25
  · have g := List.all_eq_true.mp yy_cke1_0 (j - 0) (List.mem_range.mpr (by omega))
    rwa [show 0 + (j - 0) = j by omega] at g
  by_cases h25 : j < 50
  · have g := List.all_eq_true.mp yy_cke1_25 (j - 25) (List.mem_range.mpr (by omega))
    rwa [show 25 + (j - 25) = j by omega] at g
  by_cases h50 : j < 75
  · have g := List.all_eq_true.mp yy_cke1_50 (j - 50) (List.mem_range.mpr (by omega))
    rwa [show 50 + (j - 50) = j by omega] at g
  have g := List.all_eq_true.mp yy_cke1_75 (j - 75) (List.mem_range.mpr (by omega))
  rwa [show 75 + (j - 75) = j by omega] at g
set_option maxRecDepth 100000 in
set_option maxHeartbeats 4000000 in
theorem yy_ckc : (yy_at 4 (.eq (.static "java/lang/String" "COMPACT_STRINGS" "Z") (.int 1)) && yy_at 5 (.isRef (.static "jdk/internal/util/Preconditions" "SIOOBE_FORMATTER" "Ljava/util/function/BiFunction;"))) = true := by decide +kernel
def yy_ws (j : Nat) : Nat × Nat := match j with
  | 0 => (752, 32)
  | 1 => (942, 40)
  | 2 => (944, 40)
  | _ => (768, 38)
set_option maxRecDepth 100000 in
set_option maxHeartbeats 4000000 in
theorem yy_cks : ((List.range 4).all fun j => zz_wn (yy_ws j).1 (.laysStatic (yy_st j).1 (yy_st j).2.1 (yy_st j).2.2) && zz_wn (yy_ws j).2 (.initialized (yy_st j).1)) = true := by decide +kernel
/-- of each reference to a text: its word, how it is the first one of that text (0: it is that; 1, 2: told so) -/
def yy_rq : List ((String × Nat × Nat) × Nat × Nat × Nat) := [(("UnequalHoursLaw$B", 7, 0), 645, 0, 0), (("UnequalHoursLaw", 37, 1), 832, 0, 0), (("UnequalHoursLaw", 46, 2), 953, 0, 0), (("UnequalHoursLaw", 60, 3), 1020, 0, 0), (("UnequalHoursLaw", 62, 4), 1021, 0, 0), (("UnequalHoursLaw", 64, 5), 1022, 0, 0), (("UnequalHoursLaw$W", 113, 6), 1323, 0, 0), (("UnequalHoursLaw", 270, 0), 1502, 330, 2), (("UnequalHoursLaw", 272, 7), 1503, 0, 0), (("UnequalHoursLaw", 277, 6), 1517, 368, 2), (("java/lang/StringLatin1", 151, 0), 1542, 375, 2), (("java/lang/StringUTF16", 295, 0), 1551, 389, 2), (("UnequalHoursLaw", 324, 8), 1564, 0, 0), (("UnequalHoursLaw", 334, 9), 1565, 0, 0), (("UnequalHoursLaw", 336, 10), 1566, 0, 0), (("UnequalHoursLaw", 338, 11), 1567, 0, 0), (("UnequalHoursLaw", 340, 12), 1568, 0, 0), (("UnequalHoursLaw", 342, 13), 1569, 0, 0), (("UnequalHoursLaw", 344, 14), 1570, 0, 0), (("UnequalHoursLaw", 352, 15), 1571, 0, 0), (("UnequalHoursLaw", 354, 16), 1572, 0, 0), (("UnequalHoursLaw", 382, 17), 1579, 0, 0), (("UnequalHoursLaw", 384, 18), 1580, 0, 0), (("UnequalHoursLaw", 386, 19), 1581, 0, 0), (("UnequalHoursLaw", 388, 20), 1582, 0, 0)]
def yy_ckR1 (q : (String × Nat × Nat) × Nat × Nat × Nat) : Bool := zz_wn q.2.1 (.stringRef q.1.1 q.1.2.1 (yy_tx q.1.2.2)) && (decide (q.1.2.2 < 21) && (match q.2.2.2 with
  | 0 => decide (Jvm.Term.string q.1.1 q.1.2.1 = yy_tm q.1.2.2)
  | 1 => yy_at q.2.2.1 (.eq (.string q.1.1 q.1.2.1) (yy_tm q.1.2.2))
  | _ => yy_at q.2.2.1 (.eq (yy_tm q.1.2.2) (.string q.1.1 q.1.2.1))))
set_option maxRecDepth 100000 in
set_option maxHeartbeats 4000000 in
theorem yy_ckR : (yy_rq.all yy_ckR1 && decide (yy_rq.map (fun q => q.1) = yy_rf)) = true := by decide +kernel
/-! what they give -/
theorem yy_str {args : Array Value} {s : State} {t : Jvm.Term} {bs : List Int32} {A : Nat → Prop} (hN : bs.length < 2 ^ 31) (hex : (Jvm.Cond.exactly t "java/lang/String").before args s = true) (hco : (Jvm.Cond.eq (.field t "java/lang/String" "coder" "B") (.int 0)).before args s = true) (har : (Jvm.Cond.arrayOf (yy_tv t) .byte).before args s = true) (hle : (Jvm.Cond.eq (.length (yy_tv t)) (.int (Int32.ofNat bs.length))).before args s = true)
    (hel : ∀ j : Nat, j < bs.length → (Jvm.Cond.eq (.elem (yy_tv t) (.int (Int32.ofNat j))) (.int (bs.getD j 0))).before args s = true) (hA : ∀ a : Nat, a < s.heap.size → ¬ A a) :
    ∃ a v : Nat, t.eval args s none [] s = some (.ref a) ∧ (va_O "java/lang/String" a A s s.heap ∧ va_OF "java/lang/String" "coder" "B" (.int 0) a A s s.heap ∧ va_OF "java/lang/String" "value" "[B" (.ref v) a A s s.heap) ∧ va_T .byte v bs.length (fun j => .int (bs.getD j 0)) A s s.heap := by
  obtain ⟨a, c, cA, kA, q1, q2, q3, q4, q5, q6, -⟩ := Cond.exactly_spec (args := args) (first := s) (o := none) (s := s) (idx := []) (t := t) (cls := "java/lang/String") hex
  obtain ⟨v, hv, hT⟩ := va_Tof (f := fun j => .int (bs.getD j 0)) (A := A) hN har (va_eqt hle) (fun j hj => va_eqt (hel j hj)) hA
  exact ⟨a, v, q1, ⟨⟨cA, q3, q5, by rw [q6]; exact q2, hA a (Array.getElem?_eq_some_iff.mp q3).1⟩, vk_OFof q1 (va_eqt hco) hA, vk_OFof q1 hv hA⟩, hT⟩
theorem yy_eqr {args : Array Value} {s : State} {t u : Jvm.Term} {a : Nat} (hu : u.eval args s none [] s = some (.ref a)) (h : (Jvm.Cond.eq t u).before args s = true) : t.eval args s none [] s = some (.ref a) := by
  cases hv : t.eval args s none [] s with
  | none => simp [Cond.before, Cond.holds, Cond.value, hv] at h
  | some w =>
    simp only [Cond.before, Cond.holds, Cond.value, hv, hu] at h
    cases w <;> simp_all
theorem yy_eql {args : Array Value} {s : State} {t u : Jvm.Term} {a : Nat} (hu : u.eval args s none [] s = some (.ref a)) (h : (Jvm.Cond.eq u t).before args s = true) : t.eval args s none [] s = some (.ref a) := by
  cases hv : t.eval args s none [] s with
  | none => simp [Cond.before, Cond.holds, Cond.value, hv, hu] at h
  | some w =>
    simp only [Cond.before, Cond.holds, Cond.value, hv, hu] at h
    cases w <;> simp_all
/-- the places of what is old -/
def yy_b (z bs : Nat) (k v : Nat → Nat) (t1 t2 t3 : Nat) : Nat → Nat := fun a => if a = 0 then bs else if a < yy_B then z + (a - 1) else if a < yy_B + 100 then k (a - yy_B) else if a < yy_B + 200 then v (a - yy_B - 100) else if a = yy_B + 200 then t1 else if a = yy_B + 201 then t2 else if a = yy_B + 300 then t3 else bs
theorem yy_O1 : yy_O.1 = 21 := rfl
theorem yy_O2 {k : Nat} {l : List Int32} (h : yy_O.2 k = some l) : (100 ≤ k ∧ k < 100 + 21 ∧ l = yy_by (k - 100)) ∨ (k = 200 ∧ l = yy_by 100) ∨ (k = 201 ∧ l = yy_by 101) := by
  have h : cond (Nat.ble 202 k) none (cond (Nat.ble 200 k) (some (yy_by (k - 100))) (cond (Nat.ble (100 + 21) k) none (cond (Nat.ble 100 k) (some (yy_by (k - 100))) none))) = some l := h
  by_cases c1 : 202 ≤ k
  · rw [Nat.ble_eq_true_of_le c1] at h
    cases h
  · rw [show Nat.ble 202 k = false from Bool.eq_false_iff.mpr fun e => c1 (Nat.le_of_ble_eq_true e)] at h
    by_cases c2 : 200 ≤ k
    · rw [Nat.ble_eq_true_of_le c2] at h
      have h : some (yy_by (k - 100)) = some l := h
      have h := (Option.some.inj h).symm
      by_cases c3 : k = 200
      · subst c3
        exact Or.inr (Or.inl ⟨rfl, h⟩)
      · have c3 : k = 201 := by omega
        subst c3
        exact Or.inr (Or.inr ⟨rfl, h⟩)
    · rw [show Nat.ble 200 k = false from Bool.eq_false_iff.mpr fun e => c2 (Nat.le_of_ble_eq_true e)] at h
      by_cases c3 : 100 + 21 ≤ k
      · rw [Nat.ble_eq_true_of_le c3] at h
        cases h
      · rw [show Nat.ble (100 + 21) k = false from Bool.eq_false_iff.mpr fun e => c3 (Nat.le_of_ble_eq_true e)] at h
        by_cases c4 : 100 ≤ k
        · rw [Nat.ble_eq_true_of_le c4] at h
          have h : some (yy_by (k - 100)) = some l := h
          exact Or.inl ⟨c4, by omega, (Option.some.inj h).symm⟩
        · rw [show Nat.ble 100 k = false from Bool.eq_false_iff.mpr fun e => c4 (Nat.le_of_ble_eq_true e)] at h
          cases h
theorem yy_wn_of {s : State} {args : Array Value} (hts : ∀ w ∈ lw_tbl, w.before args s = true) {k : Nat} {w : Jvm.Cond} (h : zz_wn k w = true) : w.before args s = true := hts w (List.mem_of_getElem? (of_decide_eq_true h))
/-- all that is old, at the start -/
theorem yy_old_of {s : State} {args : Array Value} {bs : Nat} (X1 : zz_X) (hbs : bs < s.heap.size) (hts : ∀ w ∈ lw_tbl, w.before args s = true) (hgv : (Jvm.Cond.and given_1 narrow_1).before args s = true) : ∃ (b : Nat → Nat) (x2 : Bool), b 0 = bs ∧ zz_b s.heap.size b ∧ yy_Z0 s.heap.size b (X1, x2) s s.heap ∧ yy_R0 b s := by
  have hA : ∀ a : Nat, a < s.heap.size → ¬ (s.heap.size ≤ a) := fun a ha q => by omega
  have hS : ∀ i : Nat, ∃ q : Nat × Nat, i < 21 → (yy_tm i).eval args s none [] s = some (.ref q.1) ∧ (va_O "java/lang/String" q.1 (fun a => s.heap.size ≤ a) s s.heap ∧ va_OF "java/lang/String" "coder" "B" (.int 0) q.1 (fun a => s.heap.size ≤ a) s s.heap ∧ va_OF "java/lang/String" "value" "[B" (.ref q.2) q.1 (fun a => s.heap.size ≤ a) s s.heap) ∧ va_T .byte q.2 (yy_by i).length (fun j => .int ((yy_by i).getD j 0)) (fun a => s.heap.size ≤ a) s s.heap := by
    intro i
    by_cases hi : i < 21
    · have c := yy_ckSs i hi
      unfold yy_ckS at c
      simp only [Bool.and_eq_true, decide_eq_true_eq] at c
      obtain ⟨c1, c2, c3, c4, c5, c6⟩ := c
      obtain ⟨a, v, h1, h2, h3⟩ := yy_str (A := fun a => s.heap.size ≤ a) (bs := yy_by i) (by omega) (yy_at_of hgv c1) (yy_at_of hgv c2) (yy_at_of hgv c3) (yy_at_of hgv c4) (fun j hj => yy_at_of hgv (List.all_eq_true.mp c6 j (List.mem_range.mpr hj))) hA
      exact ⟨(a, v), fun _ => ⟨h1, h2, h3⟩⟩
    · exact ⟨(0, 0), fun h => absurd h hi⟩
  obtain ⟨ad, had⟩ := Classical.axiomOfChoice hS
  have cs := yy_cks
  have lay : ∀ j : Nat, j < 4 → (Jvm.Cond.laysStatic (yy_st j).1 (yy_st j).2.1 (yy_st j).2.2).before args s = true ∧ (Jvm.Cond.initialized (yy_st j).1).before args s = true := fun j hj => by
    have g := List.all_eq_true.mp cs j (List.mem_range.mpr hj)
    rw [Bool.and_eq_true] at g
    exact ⟨yy_wn_of hts g.1, yy_wn_of hts g.2⟩
  have d0 := yy_ckd0
  have d1 := yy_ckd1
  have dc := yy_ckc
  rw [Bool.and_eq_true] at d0 d1 dc
  obtain ⟨t1, ht1, hT1⟩ := va_Tof (f := fun j => .int ((yy_by 100).getD j 0)) (A := fun a => s.heap.size ≤ a) (N := 100) (by decide) (yy_at_of hgv d0.1) (va_eqt (yy_at_of hgv d0.2)) (fun j hj => va_eqt (yy_at_of hgv (yy_cke0 hj))) hA
  obtain ⟨t2, ht2, hT2⟩ := va_Tof (f := fun j => .int ((yy_by 101).getD j 0)) (A := fun a => s.heap.size ≤ a) (N := 100) (by decide) (yy_at_of hgv d1.1) (va_eqt (yy_at_of hgv d1.2)) (fun j hj => va_eqt (yy_at_of hgv (yy_cke1 hj))) hA
  have z0 := va_Zof (A := fun a => s.heap.size ≤ a) (lay 0 (by decide)).1 (lay 0 (by decide)).2 (va_eqi (yy_at_of hgv dc.1)) hA
  have z1 := va_Zof (A := fun a => s.heap.size ≤ a) (lay 1 (by decide)).1 (lay 1 (by decide)).2 ht1 hA
  have z2 := va_Zof (A := fun a => s.heap.size ≤ a) (lay 2 (by decide)).1 (lay 2 (by decide)).2 ht2 hA
  have z3 := va_Zqof (A := fun a => s.heap.size ≤ a) (lay 3 (by decide)).1 (lay 3 (by decide)).2 (yy_at_of hgv dc.2) hA
  obtain ⟨t3, x2, hz3⟩ : ∃ (t3 : Nat) (x2 : Bool), va_Z "jdk/internal/util/Preconditions" "SIOOBE_FORMATTER" "Ljava/util/function/BiFunction;" (cond x2 (.ref t3) .null) (fun a => s.heap.size ≤ a) s s.heap := by
    rcases z3 with h | ⟨t, h⟩
    · exact ⟨0, false, h⟩
    · exact ⟨t, true, h⟩
  have eB : yy_B = 1000000 := rfl
  have bS : ∀ i, i < 21 → yy_b s.heap.size bs (fun i => (ad i).1) (fun i => (ad i).2) t1 t2 t3 (yy_B + i) = (ad i).1 := fun i hi => by
    unfold yy_b
    rw [if_neg (by omega), if_neg (by omega), if_pos (by omega), show yy_B + i - yy_B = i by omega]
  have bV : ∀ i, i < 21 → yy_b s.heap.size bs (fun i => (ad i).1) (fun i => (ad i).2) t1 t2 t3 (yy_B + i + 100) = (ad i).2 := fun i hi => by
    unfold yy_b
    rw [if_neg (by omega), if_neg (by omega), if_neg (by omega), if_pos (by omega), show yy_B + i + 100 - yy_B - 100 = i by omega]
  have b200 : yy_b s.heap.size bs (fun i => (ad i).1) (fun i => (ad i).2) t1 t2 t3 (yy_B + 200) = t1 := by
    unfold yy_b
    rw [if_neg (by omega), if_neg (by omega), if_neg (by omega), if_neg (by omega), if_pos rfl]
  have b201 : yy_b s.heap.size bs (fun i => (ad i).1) (fun i => (ad i).2) t1 t2 t3 (yy_B + 201) = t2 := by
    unfold yy_b
    rw [if_neg (by omega), if_neg (by omega), if_neg (by omega), if_neg (by omega), if_neg (by omega), if_pos rfl]
  have b300 : yy_b s.heap.size bs (fun i => (ad i).1) (fun i => (ad i).2) t1 t2 t3 (yy_B + 300) = t3 := by
    unfold yy_b
    rw [if_neg (by omega), if_neg (by omega), if_neg (by omega), if_neg (by omega), if_neg (by omega), if_neg (by omega), if_pos rfl]
  refine ⟨yy_b s.heap.size bs (fun i => (ad i).1) (fun i => (ad i).2) t1 t2 t3, x2, if_pos rfl, ⟨fun k hk => ?_, hbs⟩, ⟨fun i hi => ?_, fun k l hk => ?_, z0, ?_, ?_, ?_⟩, fun c k i hi => ?_⟩
  · unfold yy_b
    rw [if_neg (by omega), if_pos hk, show k + 1 - 1 = k by omega]
  · rw [yy_O1] at hi
    rw [bS i hi, bV i hi]
    exact (had i hi).2.1
  · rcases yy_O2 hk with ⟨c1, c2, rfl⟩ | ⟨rfl, rfl⟩ | ⟨rfl, rfl⟩
    · obtain ⟨i, rfl⟩ : ∃ i, k = i + 100 := ⟨k - 100, by omega⟩
      rw [show i + 100 - 100 = i by omega, ← Nat.add_assoc, bV i (by omega)]
      exact (had i (by omega)).2.2
    · rw [b200]
      exact hT1
    · rw [b201]
      exact hT2
  · rw [b200]
    exact z1
  · rw [b201]
    exact z2
  · rw [b300]
    exact hz3
  · have g := yy_ckR
    rw [Bool.and_eq_true, decide_eq_true_eq] at g
    obtain ⟨g1, g2⟩ := g
    rw [← g2] at hi
    obtain ⟨⟨⟨c', k', i'⟩, w, e, r⟩, hq, hqe⟩ := List.mem_map.mp hi
    cases hqe
    have g3 := List.all_eq_true.mp g1 _ hq
    unfold yy_ckR1 at g3
    simp only [Bool.and_eq_true, decide_eq_true_eq] at g3
    obtain ⟨w1, w2, w3⟩ := g3
    rw [bS i w2]
    have hc := (had i w2).1
    refine vk_R.of (yy_wn_of hts w1) ?_
    show (Jvm.Term.string c k).eval args s none [] s = _
    split at w3
    · rw [of_decide_eq_true w3]
      exact hc
    · exact yy_eqr hc (yy_at_of hgv w3)
    · exact yy_eql hc (yy_at_of hgv w3)
/-! the classes and the rows that are known -/
theorem zz_known {s : State} {args : Array Value} (hts : ∀ w ∈ lw_tbl, w.before args s = true) : ∃ (D : va_G) (cA : Nat → ClassId), va_K D zz_cl (zz_tys cA) s := by
  have hal : ∀ w ∈ zz_all, w.before args s = true := fun w hw => hts w (List.mem_filter.mp hw).1
  have h1 : ∀ k : Nat, ∃ y : ClassId × (Nat → Nat), ∀ q : vw_C, zz_cl[k]? = some q → u_Kn s q.1 q.2.1 q.2.2 y.1 y.2 := by
    intro k
    cases hk : zz_cl[k]? with
    | none => exact ⟨(0, fun _ => 0), fun q hq => by cases hq⟩
    | some q =>
      obtain ⟨C, T, N⟩ := q
      obtain ⟨g1, g2, -⟩ := zz_cls hk
      obtain ⟨cC, iS, hKn⟩ := u_known (C := C) (T := T) (N := N) (n := N) hal g1 (hal _ g2)
      exact ⟨(cC, iS), fun q hq => by cases hq; exact hKn⟩
  obtain ⟨f, hf⟩ := Classical.axiomOfChoice h1
  have h2 : ∀ t : Nat, ∃ y : ClassId, t < 9 → ArrOfT s y (zz_ty t) ∧ va_RA s y (zz_ty t) := by
    intro t
    have prim : ∀ ty : FieldType, (Jvm.Cond.arrayClass ty) ∈ lw_tbl → (∀ y : ClassId, s.vm.findClass ("[" ++ ty.toString) = some y → va_RA s y ty) → ∃ y : ClassId, t < 9 → ArrOfT s y ty ∧ va_RA s y ty := fun ty hw hra => by
      obtain ⟨c, k, comp, e1, e2, e3⟩ := Cond.arrayClass_spec (hts _ hw)
      exact ⟨c, fun _ => ⟨fun N z => ⟨(fun k h => by cases h), k, e2, comp, e3⟩, hra c e1⟩⟩
    have refs : ∀ C : String, (Jvm.Cond.arrayOver (.object C)) ∈ lw_tbl → ∃ y : ClassId, t < 9 → ArrOfT s y (.object C) ∧ va_RA s y (.object C) := fun C hw => by
      obtain ⟨comp, c, k, e1, e2, e3, e4, e5⟩ := Cond.arrayOver_spec (hts _ hw)
      exact ⟨c, fun _ => ⟨fun N z => ⟨(fun k h => by cases h), k, e3, comp, e4⟩, k, comp, e3, e4, e1, e5⟩⟩
    have arrs : ∀ u : FieldType, (Jvm.Cond.arrayOver (.array u)) ∈ lw_tbl → ∃ y : ClassId, t < 9 → ArrOfT s y (.array u) ∧ va_RA s y (.array u) := fun u hw => by
      obtain ⟨comp, cA, kA, a1, a2, a3, a4, a5⟩ := arrayOverA_spec (hts _ hw)
      exact ⟨cA, fun _ => ⟨fun N z => ⟨(fun k h => by cases h), kA, a3, comp, a4⟩, a5⟩⟩
    match t with
    | 0 => exact prim .int (List.mem_of_getElem? (i := 108) (by decide +kernel)) (fun _ h => h)
    | 1 => exact prim .boolean (List.mem_of_getElem? (i := 220) (by decide +kernel)) (fun _ h => h)
    | 2 => exact prim .byte (List.mem_of_getElem? (i := 667) (by decide +kernel)) (fun _ h => h)
    | 3 => exact refs "UnequalHours$Town" (List.mem_of_getElem? (i := 60) (by decide +kernel))
    | 4 => exact refs "UnequalHours$State" (List.mem_of_getElem? (i := 174) (by decide +kernel))
    | 5 => exact arrs .int (List.mem_of_getElem? (i := 727) (by decide +kernel))
    | 6 => exact arrs (.array .int) (List.mem_of_getElem? (i := 675) (by decide +kernel))
    | 7 => exact refs "UnequalHoursLaw$B" (List.mem_of_getElem? (i := 677) (by decide +kernel))
    | 8 => exact refs "UnequalHoursLaw$W" (List.mem_of_getElem? (i := 1558) (by decide +kernel))
    | t + 9 => exact ⟨0, fun h => absurd h (by omega)⟩
  obtain ⟨cA, hcA⟩ := Classical.axiomOfChoice h2
  refine ⟨(fun k => (f k).1, fun k => (f k).2), cA, fun k q hq => hf k q hq, fun k q hq => ?_⟩
  have hk : k < 9 := by
    have := (List.getElem?_eq_some_iff.mp hq).1
    simpa [zz_tys] using this
  rw [zz_tys_at cA hk] at hq
  cases hq
  exact hcA k hk
/-- a private method of the superclass is the one that the class has -/
theorem yy_selP {C : String} {c : ClassId} {y : MethodName} {s : State} {args : Array Value} (hy : y.cls ≠ "java/lang/invoke/MethodHandle" ∧ y.cls ≠ "java/lang/invoke/VarHandle") (hc : s.vm.findClass C = some c) (hsame : (Cond.sameMethod y.cls y.cls y.name y.desc).before args s = true) (hpriv : (Cond.privateMethod y).before args s = true) (hinst : (Cond.instanceMethod y).before args s = true) : (Cond.selects C y y).before args s = true := by
  obtain ⟨mk, methM, hnamed, hmethM, -, -⟩ := Cond.instanceMethod_spec hinst
  have hfound : s.methodFound? y.cls y.name y.desc = some mk := State.methodFound?_of_named hnamed hy
  have hcy : s.vm.findClass y.cls = some mk.cls := findClass_of_methodNamed hnamed
  obtain ⟨-, k, hk, hni⟩ := Cond.sameMethod_spec hcy hfound hsame
  have hsel : selectMethod {} s.vm c mk = .method mk := selectMethod_private hmethM (Cond.privateMethod_at hpriv mk methM hnamed hmethM)
  simp only [Cond.before, Cond.holds, Cond.value, hc, hfound, hnamed, hsel, hk]
  simp
  exact hni
def yy_ckP1 (q : MethodName × Nat × Nat × Nat) : Bool := zz_wn q.2.1 (.sameMethod q.1.cls q.1.cls q.1.name q.1.desc) && (zz_wn q.2.2.1 (.privateMethod q.1) && (zz_wn q.2.2.2 (.instanceMethod q.1) && decide (q.1.cls ≠ "java/lang/invoke/MethodHandle" ∧ q.1.cls ≠ "java/lang/invoke/VarHandle")))
theorem yy_ckP : ((yy_pv.zip yy_pi).all yy_ckP1 && decide ((yy_pv.zip yy_pi).map (fun q => q.1) = yy_pv)) = true := by decide +kernel
theorem zz_E_of {s : State} {args : Array Value} (hts : ∀ w ∈ lw_tbl, w.before args s = true) {D : va_G} {cA : Nat → ClassId} (hK : va_K D zz_cl (zz_tys cA) s) : zz_E s := by
  refine ⟨fun w hw => ?_, ⟨va_AO.of (hts _ (List.mem_of_getElem? (i := 60) (by decide +kernel))), va_AO.of (hts _ (List.mem_of_getElem? (i := 174) (by decide +kernel))), va_AO.of (hts _ (List.mem_of_getElem? (i := 677) (by decide +kernel))), va_AO.of (hts _ (List.mem_of_getElem? (i := 1558) (by decide +kernel)))⟩, over_moved (Vm.Alike.refl s.vm) (hts _ (List.mem_of_getElem? (i := 727) (by decide +kernel))), over_moved (Vm.Alike.refl s.vm) (hts _ (List.mem_of_getElem? (i := 675) (by decide +kernel))), fun y hy => ?_⟩
  · have h1 := List.mem_filter.mp hw
    have h2 := h1.2
    have h3 := hts w h1.1
    cases w <;> first | exact va_Nw.of rfl h3 | (exact absurd (show false = true from h2) (by decide))
  · have g := yy_ckP
    rw [Bool.and_eq_true, decide_eq_true_eq] at g
    obtain ⟨g1, g2⟩ := g
    rw [← g2] at hy
    obtain ⟨q, hq, rfl⟩ := List.mem_map.mp hy
    have g3 := List.all_eq_true.mp g1 _ hq
    unfold yy_ckP1 at g3
    simp only [Bool.and_eq_true, decide_eq_true_eq] at g3
    obtain ⟨w1, w2, w3, w4⟩ := g3
    have h9 := yy_selP (args := args) w4 (hK.1 13 _ yy_ccl).2.1 (yy_wn_of hts w1) (yy_wn_of hts w2) (yy_wn_of hts w3)
    exact word_at (State.WarmedH.refl s) (Or.inl rfl) h9
section ZR
variable {p : Program} {l : Launch} {e : Env} {s : State} {m : MethodId} {below : List Frame} {meth : Method} {c : Code} {D : va_G} {cA : Nat → ClassId} {z : Nat} {b : Nat → Nat} {X : yy_X}
/-- a run of the law that ends well is a run of the machine that ends well -/
theorem yy_law_fin {bs : Nat} {a : zz_S} (hr : meth.sig.returnType = ret) (hlocks : meth.locks = false) (hZ : zz_Zr a.2.2.2) (C : zz_C p room_1 s m #[Value.ref bs] meth c D cA s.heap.size b 0 X 0)
    (k : ∃ (n q : Nat) (v : Option Value) (h : zz_H), yy_walk yy_O zz_Q zz_us X n 0 a = some (.inr (q, v, h)) ∧ v = some (.int 1) ∧ h.1.1 ≤ 360000 ∧ h.1.2 ≤ 3500000) : zz_G p l e room_1 s m #[Value.ref bs] below meth c D cA s.heap.size b 0 0 0 (lw_Z below #[Value.ref bs] s) a := by
  obtain ⟨n, q, v, h, hw, hv, h1, h2⟩ := k
  refine zz_sim l D cA s.heap.size b X n p e room_1 s m _ below meth c (lw_Z below #[Value.ref bs] s) 0 0 0 a _ (by decide +kernel) hw (by show h.1.1 < 1000000; omega) C hZ (Nat.zero_le _) (Nat.zero_le _) (by show h.1.1 - 0 ≤ room_1.cells; have hr1 : 360000 ≤ room_1.cells := Nat.le_of_ble_eq_true rfl; omega) (by show h.1.2 - 0 ≤ room_1.slots; have hr2 : 3500000 ≤ room_1.slots := Nat.le_of_ble_eq_true rfl; omega) ?_
  intro hk H locs ls hW hS
  have hv : v = some (.int 1) := hv
  subst hv
  rcases hk with ⟨hd, -⟩ | ⟨-, h3, -⟩ | ⟨-, h3, -⟩
  · refine va_forget (fun q hq => hS.2.2 q hq) ?_
    refine W.widen (k := room_1.cells) (n := room_1.slots) (by show h.1.1 - 0 ≤ room_1.cells; have hr1 : 360000 ≤ room_1.cells := Nat.le_of_ble_eq_true rfl; omega) (by show h.1.2 - 0 ≤ room_1.slots; have hr2 : 3500000 ≤ room_1.slots := Nat.le_of_ble_eq_true rfl; omega) ?_
    exact lw_ret C.1 C.2.1 hr hlocks hd
  · exact absurd h3 (by decide +kernel)
  · exact absurd h3 (by decide +kernel)
end ZR
