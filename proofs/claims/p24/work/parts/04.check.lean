/-! THE PROGRAM'S TABLES ARE RIGHT: of each instruction its decode row and the words it links by, of each method and each kind of object the words; all by computing -/
def zz_wd (k : Nat) (w : Jvm.Cond) : Bool := decide (lw_tbl[k]? = some w) && goodWord w
def zz_wn (k : Nat) (w : Jvm.Cond) : Bool := decide (lw_tbl[k]? = some w)
def zz_le (i : Instr) (n : Nat) : Nat := match i with
  | .bipush _ | .ldc _ | .iload _ | .lload _ | .aload _ | .istore _ | .lstore _ | .astore _ | .newarray _ => 2
  | .sipush _ | .ldc_w _ | .ldc2_w _ | .iinc .. | .goto _ | .ifCond .. | .if_icmp .. | .ifnull _ | .ifnonnull _ | .getfield _ | .putfield _ | .new _ | .anewarray _ | .invokestatic _ | .invokevirtual _ | .invokespecial _ => 3
  | .tableswitch .. | .lookupswitch .. => n
  | _ => 1
def zz_swk : List (Int × Nat) → Int → List Int → Int → Bool
  | [], _, [], _ => true
  | (k, t) :: r, lo, o :: os, q => decide (k = lo) && (decide (q + o = (t : Int)) && zz_swk r (lo + 1) os q)
  | _, _, _, _ => false
def zz_lkk : List (Int × Nat) → List (Int × Int) → Int → Bool
  | [], [], _ => true
  | (k, t) :: r, (j, o) :: os, q => decide (k = j) && (decide (q + o = (t : Int)) && zz_lkk r os q)
  | _, _, _ => false
def zz_ftk (f : FieldType) (u : Nat) : Bool := match f with
  | .int => decide (u = 0)
  | .boolean => decide (u = 1)
  | .object _ => decide (u = 2)
  | .array _ => decide (u = 2)
  | _ => false
/-- the word that a row of the table of links tells -/
def zz_word (q : Nat × Nat × Nat × Nat × Nat × Value) : Jvm.Cond := match q with
  | (1, o, k, x, y, _) => match zz_cl[x]? with
    | some (_, T, _) => .fieldLink (zz_cn o) k (T y).1 (T y).2.1 (T y).2.2.1
    | none => .tt
  | (2, o, k, x, _, _) => .methodLink (zz_cn o) k (zz_y x)
  | (3, o, k, x, _, _) => .methodLinkNest (zz_cn o) k (zz_y x) "UnequalHours"
  | (4, o, k, x, _, _) => match zz_cl[x]? with
    | some (C, _, _) => .classLink (zz_cn o) k C
    | none => .tt
  | (5, o, k, _, _, .int a) => .constant (zz_cn o) k a
  | (6, o, k, _, _, .long a) => .constantLong (zz_cn o) k a
  | (7, _, _, t, _, _) => .arrayClass (zz_ty t)
  | (8, o, k, _, _, _) => .methodLink (zz_cn o) k objectInit
  | (9, o, k, _, _, _) => .methodLink (zz_cn o) k arraycopyName
  | (10, o, k, _, _, _) => .methodLink (zz_cn o) k Lib.Math.min.name
  | (11, o, k, _, _, _) => .methodLink (zz_cn o) k Lib.Math.max.name
  | (12, o, k, _, _, _) => .methodLink (zz_cn o) k Lib.Math.abs.name
  | _ => .tt
def zz_is3 (q : Nat × Nat × Nat × Nat × Nat × Value) : Bool := decide (q.1 = 3)
def zz_rm (m x : Nat) : Bool := Nat.ble (zz_fr x + 1) (zz_fr m) && Nat.ble (19 + zz_nl x + zz_lo x) (zz_lo m)
def zz_okx (m x : Nat) (t n : Nat) : Bool := Nat.ble 1 x && (Nat.blt x zz_nm && (decide ((zz_mw x).1 = t) && (zz_rm m x && decide (zz_na x = n))))
def zz_okI (m q : Nat) (e : zz_I) : Bool := match e with
  | (i, (x, y, u, w), v, sw) => decide (decode (zz_bc m) q = .ok (i, zz_le i y)) && (match i with
    | .goto o => decide ((q : Int) + o = (x : Int))
    | .ifCond _ o => decide ((q : Int) + o = (x : Int))
    | .if_icmp _ o => decide ((q : Int) + o = (x : Int))
    | .ifnull o => decide ((q : Int) + o = (x : Int))
    | .ifnonnull o => decide ((q : Int) + o = (x : Int))
    | .tableswitch d lo hi offs => decide ((q : Int) + d = (x : Int)) && (decide (hi + 1 = lo + offs.toList.length) && zz_swk sw lo offs.toList q)
    | .lookupswitch d ps => decide ((q : Int) + d = (x : Int)) && ((ps.toList.zip (ps.toList.drop 1)).all (fun (a, next) => a.1 < next.1) && zz_lkk sw ps.toList q)
    | .getfield k => decide (zz_lt w = some (1, zz_oc m, k, x, y, .null)) && (match zz_cl[x]? with
      | some (_, _, N) => Nat.blt y N
      | none => false)
    | .putfield k => decide (zz_lt w = some (1, zz_oc m, k, x, y, .null)) && (decide ((zz_us x)[y]? = some u) && (match zz_cl[x]? with
      | some (_, T, N) => Nat.blt y N && (!(T y).2.2.2 || (decide ((zz_mw m).1 = 2) && decide (zz_mc m = x)))
      | none => false))
    | .new k => decide (zz_lt w = some (4, zz_oc m, k, x, 0, .null)) && (match zz_cl[x]? with
      | some _ => true
      | none => false)
    | .newarray t => Nat.blt x 3 && (decide (newarray.typeOf t = zz_ty x) && decide (zz_lt w = some (7, 0, 0, x, 0, .null)))
    | .anewarray k => decide (x = 3 ∨ x = 4) && decide (zz_lt w = some (4, zz_oc m, k, zz_of x, 0, .null))
    | .ldc k => match v with
      | .int a => decide (zz_lt w = some (5, zz_oc m, k, 0, 0, .int a))
      | _ => false
    | .ldc_w k => match v with
      | .int a => decide (zz_lt w = some (5, zz_oc m, k, 0, 0, .int a))
      | _ => false
    | .ldc2_w k => match v with
      | .long a => decide (zz_lt w = some (6, zz_oc m, k, 0, 0, .long a))
      | _ => false
    | .invokestatic k => if x < 100000 then (decide (zz_lt w = some (2, zz_oc m, k, x, 0, .null)) || decide (zz_lt w = some (3, zz_oc m, k, x, 0, .null))) && zz_okx m x 0 y
        else decide (zz_lt w = some (x - 100000 + 8, zz_oc m, k, 0, 0, .null)) && (Nat.ble 1 (zz_fr m) && Nat.ble (if x = 100001 then 26 else 21) (zz_lo m))
    | .invokevirtual k => decide (zz_lt w = some (2, zz_oc m, k, x, 0, .null)) && (zz_okx m x 1 y && decide (zz_mc x = u))
    | .invokespecial k => if x = 100000 then decide (zz_lt w = some (8, zz_oc m, k, 0, 0, .null)) && (Nat.ble 1 (zz_fr m) && Nat.ble 20 (zz_lo m))
        else (decide (zz_lt w = some (2, zz_oc m, k, x, 0, .null)) || decide (zz_lt w = some (3, zz_oc m, k, x, 0, .null))) && zz_okx m x 2 y
    | _ => true)
def zz_okL (w : Nat) : Bool := match zz_lt w with
  | none => true
  | some q => decide (lw_tbl[w]? = some (zz_word q)) && (zz_is3 q || goodWord (zz_word q))
def zz_okR (m : Nat) : Bool := match zz_rt m, zz_re m with
  | 0, none => true
  | 1, some .int => true
  | 2, some .boolean => true
  | 3, some (.object _) => true
  | _, _ => false
def zz_okM (m : Nat) : Bool := match zz_mw m with
  | (t, kc, ks, kl, ki) => zz_wd ki (.initialized (zz_y m).cls) && (plainFor (zz_y m) && (decide ((zz_y m).cls = zz_ow m) && (zz_okR m &&
      (decide ((zz_y m).cls ≠ "java/lang/invoke/MethodHandle" ∧ (zz_y m).cls ≠ "java/lang/invoke/VarHandle") && (decide ((parseMethodDescriptor (zz_y m).desc).map (fun d => d.parameters.length) = some (zz_na m)) && (match t with
      | 0 => zz_wd ks (.static (zz_y m))
      | 1 => zz_wd ks (.instanceMethod (zz_y m)) && (zz_wd kl (.selects (zz_y m).cls (zz_y m) (zz_y m)) && (match zz_cl[zz_mc m]? with
        | some (C, _, _) => decide (C = (zz_y m).cls)
        | none => false))
      | _ => zz_wd ks (.instanceMethod (zz_y m)) && (decide ((zz_y m).name = "<init>") && (decide (zz_rt m = 0) && (match zz_cl[zz_mc m]? with
        | some (C, _, _) => decide (C = (zz_y m).cls)
        | none => false)))))))))
def zz_okF (C : String) (T : u_T) (us : List Nat) (j : Nat) : Bool := decide ((T j).1 = C) && (decide (parseFieldDescriptor (T j).2.2.1 = some (zz_ft (T j).2.2.1)) && (match us[j]? with
  | some u => zz_ftk (zz_ft (T j).2.2.1) u
  | none => false))
def zz_okC (c : Nat) : Bool := match zz_cl[c]? with
  | some (C, T, N) => (u_ws C T N).all (fun w => decide (w ∈ lw_tbl) && goodWord w) && (zz_wd (zz_cw c).1 (.instantiable C N) && (zz_wd (zz_cw c).2 (.initialized C) && (decide ((zz_us c).length = N) &&
      ((List.range N).all (fun j => zz_okF C T (zz_us c) j) && (List.range N).all (fun a => (List.range N).all (fun b => decide (a = b) || decide ((T a).2.1 ≠ (T b).2.1)))))))
  | none => false
set_option maxRecDepth 100000 in
set_option maxHeartbeats 4000000 in
theorem zz_allC0 : zz_okC 0 = true := by decide +kernel
set_option maxRecDepth 100000 in
set_option maxHeartbeats 4000000 in
theorem zz_allC1 : zz_okC 1 = true := by decide +kernel
set_option maxRecDepth 100000 in
set_option maxHeartbeats 4000000 in
theorem zz_allC2 : zz_okC 2 = true := by decide +kernel
set_option maxRecDepth 100000 in
set_option maxHeartbeats 4000000 in
theorem zz_allC3 : zz_okC 3 = true := by decide +kernel
set_option maxRecDepth 100000 in
set_option maxHeartbeats 4000000 in
theorem zz_allC4 : zz_okC 4 = true := by decide +kernel
set_option maxRecDepth 100000 in
set_option maxHeartbeats 4000000 in
theorem zz_allC5 : zz_okC 5 = true := by decide +kernel
set_option maxRecDepth 100000 in
set_option maxHeartbeats 4000000 in
theorem zz_allC6 : zz_okC 6 = true := by decide +kernel
set_option maxRecDepth 100000 in
set_option maxHeartbeats 4000000 in
theorem zz_allC7 : zz_okC 7 = true := by decide +kernel
set_option maxRecDepth 100000 in
set_option maxHeartbeats 4000000 in
theorem zz_allC8 : zz_okC 8 = true := by decide +kernel
set_option maxRecDepth 100000 in
set_option maxHeartbeats 4000000 in
theorem zz_allC9 : zz_okC 9 = true := by decide +kernel
set_option maxRecDepth 100000 in
set_option maxHeartbeats 4000000 in
theorem zz_allC10 : zz_okC 10 = true := by decide +kernel
theorem zz_allC : ∀ c, c < 11 → zz_okC c = true := lt_s (lt_s (lt_s (lt_s (lt_s (lt_s (lt_s (lt_s (lt_s (lt_s (lt_s (lt_0) zz_allC0) zz_allC1) zz_allC2) zz_allC3) zz_allC4) zz_allC5) zz_allC6) zz_allC7) zz_allC8) zz_allC9) zz_allC10
set_option maxRecDepth 100000 in
set_option maxHeartbeats 4000000 in
theorem zz_aM0 : ∀ j, j < 20 → 0 < 0 + j → zz_okM (0 + j) = true := by
  have h : ((List.range 20).all fun k => decide (0 + k = 0) || zz_okM (0 + k)) = true := by decide +kernel
  intro j hj h0
  have h3 := List.all_eq_true.mp h j (List.mem_range.mpr hj)
  simp only [Bool.or_eq_true, decide_eq_true_eq] at h3
  exact h3.elim (fun e => absurd e (by omega)) id
set_option maxRecDepth 100000 in
set_option maxHeartbeats 4000000 in
theorem zz_aM20 : ∀ j, j < 20 → 0 < 20 + j → zz_okM (20 + j) = true := by
  have h : ((List.range 20).all fun k => decide (20 + k = 0) || zz_okM (20 + k)) = true := by decide +kernel
  intro j hj h0
  have h3 := List.all_eq_true.mp h j (List.mem_range.mpr hj)
  simp only [Bool.or_eq_true, decide_eq_true_eq] at h3
  exact h3.elim (fun e => absurd e (by omega)) id
set_option maxRecDepth 100000 in
set_option maxHeartbeats 4000000 in
theorem zz_aM40 : ∀ j, j < 20 → 0 < 40 + j → zz_okM (40 + j) = true := by
  have h : ((List.range 20).all fun k => decide (40 + k = 0) || zz_okM (40 + k)) = true := by decide +kernel
  intro j hj h0
  have h3 := List.all_eq_true.mp h j (List.mem_range.mpr hj)
  simp only [Bool.or_eq_true, decide_eq_true_eq] at h3
  exact h3.elim (fun e => absurd e (by omega)) id
set_option maxRecDepth 100000 in
set_option maxHeartbeats 4000000 in
theorem zz_aM60 : ∀ j, j < 20 → 0 < 60 + j → zz_okM (60 + j) = true := by
  have h : ((List.range 20).all fun k => decide (60 + k = 0) || zz_okM (60 + k)) = true := by decide +kernel
  intro j hj h0
  have h3 := List.all_eq_true.mp h j (List.mem_range.mpr hj)
  simp only [Bool.or_eq_true, decide_eq_true_eq] at h3
  exact h3.elim (fun e => absurd e (by omega)) id
set_option maxRecDepth 100000 in
set_option maxHeartbeats 4000000 in
theorem zz_aM80 : ∀ j, j < 20 → 0 < 80 + j → zz_okM (80 + j) = true := by
  have h : ((List.range 20).all fun k => decide (80 + k = 0) || zz_okM (80 + k)) = true := by decide +kernel
  intro j hj h0
  have h3 := List.all_eq_true.mp h j (List.mem_range.mpr hj)
  simp only [Bool.or_eq_true, decide_eq_true_eq] at h3
  exact h3.elim (fun e => absurd e (by omega)) id
set_option maxRecDepth 100000 in
set_option maxHeartbeats 4000000 in
theorem zz_aM100 : ∀ j, j < 20 → 0 < 100 + j → zz_okM (100 + j) = true := by
  have h : ((List.range 20).all fun k => decide (100 + k = 0) || zz_okM (100 + k)) = true := by decide +kernel
  intro j hj h0
  have h3 := List.all_eq_true.mp h j (List.mem_range.mpr hj)
  simp only [Bool.or_eq_true, decide_eq_true_eq] at h3
  exact h3.elim (fun e => absurd e (by omega)) id
set_option maxRecDepth 100000 in
set_option maxHeartbeats 4000000 in
theorem zz_aM120 : ∀ j, j < 20 → 0 < 120 + j → zz_okM (120 + j) = true := by
  have h : ((List.range 20).all fun k => decide (120 + k = 0) || zz_okM (120 + k)) = true := by decide +kernel
  intro j hj h0
  have h3 := List.all_eq_true.mp h j (List.mem_range.mpr hj)
  simp only [Bool.or_eq_true, decide_eq_true_eq] at h3
  exact h3.elim (fun e => absurd e (by omega)) id
set_option maxRecDepth 100000 in
set_option maxHeartbeats 4000000 in
theorem zz_aM140 : ∀ j, j < 20 → 0 < 140 + j → zz_okM (140 + j) = true := by
  have h : ((List.range 20).all fun k => decide (140 + k = 0) || zz_okM (140 + k)) = true := by decide +kernel
  intro j hj h0
  have h3 := List.all_eq_true.mp h j (List.mem_range.mpr hj)
  simp only [Bool.or_eq_true, decide_eq_true_eq] at h3
  exact h3.elim (fun e => absurd e (by omega)) id
set_option maxRecDepth 100000 in
set_option maxHeartbeats 4000000 in
theorem zz_aM160 : ∀ j, j < 20 → 0 < 160 + j → zz_okM (160 + j) = true := by
  have h : ((List.range 20).all fun k => decide (160 + k = 0) || zz_okM (160 + k)) = true := by decide +kernel
  intro j hj h0
  have h3 := List.all_eq_true.mp h j (List.mem_range.mpr hj)
  simp only [Bool.or_eq_true, decide_eq_true_eq] at h3
  exact h3.elim (fun e => absurd e (by omega)) id
set_option maxRecDepth 100000 in
set_option maxHeartbeats 4000000 in
theorem zz_aM180 : ∀ j, j < 20 → 0 < 180 + j → zz_okM (180 + j) = true := by
  have h : ((List.range 20).all fun k => decide (180 + k = 0) || zz_okM (180 + k)) = true := by decide +kernel
  intro j hj h0
  have h3 := List.all_eq_true.mp h j (List.mem_range.mpr hj)
  simp only [Bool.or_eq_true, decide_eq_true_eq] at h3
  exact h3.elim (fun e => absurd e (by omega)) id
set_option maxRecDepth 100000 in
set_option maxHeartbeats 4000000 in
theorem zz_aM200 : ∀ j, j < 20 → 0 < 200 + j → zz_okM (200 + j) = true := by
  have h : ((List.range 20).all fun k => decide (200 + k = 0) || zz_okM (200 + k)) = true := by decide +kernel
  intro j hj h0
  have h3 := List.all_eq_true.mp h j (List.mem_range.mpr hj)
  simp only [Bool.or_eq_true, decide_eq_true_eq] at h3
  exact h3.elim (fun e => absurd e (by omega)) id
set_option maxRecDepth 100000 in
set_option maxHeartbeats 4000000 in
theorem zz_aM220 : ∀ j, j < 20 → 0 < 220 + j → zz_okM (220 + j) = true := by
  have h : ((List.range 20).all fun k => decide (220 + k = 0) || zz_okM (220 + k)) = true := by decide +kernel
  intro j hj h0
  have h3 := List.all_eq_true.mp h j (List.mem_range.mpr hj)
  simp only [Bool.or_eq_true, decide_eq_true_eq] at h3
  exact h3.elim (fun e => absurd e (by omega)) id
set_option maxRecDepth 100000 in
set_option maxHeartbeats 4000000 in
theorem zz_aM240 : ∀ j, j < 20 → 0 < 240 + j → zz_okM (240 + j) = true := by
  have h : ((List.range 20).all fun k => decide (240 + k = 0) || zz_okM (240 + k)) = true := by decide +kernel
  intro j hj h0
  have h3 := List.all_eq_true.mp h j (List.mem_range.mpr hj)
  simp only [Bool.or_eq_true, decide_eq_true_eq] at h3
  exact h3.elim (fun e => absurd e (by omega)) id
set_option maxRecDepth 100000 in
set_option maxHeartbeats 4000000 in
theorem zz_aM260 : ∀ j, j < 10 → 0 < 260 + j → zz_okM (260 + j) = true := by
  have h : ((List.range 10).all fun k => decide (260 + k = 0) || zz_okM (260 + k)) = true := by decide +kernel
  intro j hj h0
  have h3 := List.all_eq_true.mp h j (List.mem_range.mpr hj)
  simp only [Bool.or_eq_true, decide_eq_true_eq] at h3
  exact h3.elim (fun e => absurd e (by omega)) id
theorem zz_allM {m : Nat} (h0 : 0 < m) (hm : m < zz_nm) : zz_okM m = true := by
  have hm : m < 270 := hm
  by_cases h0 : m < 20
  · have g := zz_aM0 (m - 0) (by omega) (by omega)
    rwa [show 0 + (m - 0) = m by omega] at g
  by_cases h20 : m < 40
  · have g := zz_aM20 (m - 20) (by omega) (by omega)
    rwa [show 20 + (m - 20) = m by omega] at g
  by_cases h40 : m < 60
  · have g := zz_aM40 (m - 40) (by omega) (by omega)
    rwa [show 40 + (m - 40) = m by omega] at g
  by_cases h60 : m < 80
  · have g := zz_aM60 (m - 60) (by omega) (by omega)
    rwa [show 60 + (m - 60) = m by omega] at g
  by_cases h80 : m < 100
  · have g := zz_aM80 (m - 80) (by omega) (by omega)
    rwa [show 80 + (m - 80) = m by omega] at g
  by_cases h100 : m < 120
  · have g := zz_aM100 (m - 100) (by omega) (by omega)
    rwa [show 100 + (m - 100) = m by omega] at g
  by_cases h120 : m < 140
  · have g := zz_aM120 (m - 120) (by omega) (by omega)
    rwa [show 120 + (m - 120) = m by omega] at g
  by_cases h140 : m < 160
  · have g := zz_aM140 (m - 140) (by omega) (by omega)
    rwa [show 140 + (m - 140) = m by omega] at g
  by_cases h160 : m < 180
  · have g := zz_aM160 (m - 160) (by omega) (by omega)
    rwa [show 160 + (m - 160) = m by omega] at g
  by_cases h180 : m < 200
  · have g := zz_aM180 (m - 180) (by omega) (by omega)
    rwa [show 180 + (m - 180) = m by omega] at g
  by_cases h200 : m < 220
  · have g := zz_aM200 (m - 200) (by omega) (by omega)
    rwa [show 200 + (m - 200) = m by omega] at g
  by_cases h220 : m < 240
  · have g := zz_aM220 (m - 220) (by omega) (by omega)
    rwa [show 220 + (m - 220) = m by omega] at g
  by_cases h240 : m < 260
  · have g := zz_aM240 (m - 240) (by omega) (by omega)
    rwa [show 240 + (m - 240) = m by omega] at g
  have g := zz_aM260 (m - 260) (by omega) (by omega)
  rwa [show 260 + (m - 260) = m by omega] at g
theorem zz_tb1 {w : Jvm.Cond} (h : w ∈ tables_1_1) : w ∈ lw_tbl := List.mem_append_right _ (List.mem_append_left _ h)
theorem zz_tb2 {w : Jvm.Cond} (h : w ∈ tables_1_2) : w ∈ lw_tbl := List.mem_append_right _ (List.mem_append_right _ (List.mem_append_left _ h))
theorem zz_tb3 {w : Jvm.Cond} (h : w ∈ tables_1_3) : w ∈ lw_tbl := List.mem_append_right _ (List.mem_append_right _ (List.mem_append_right _ (List.mem_append_left _ h)))
theorem zz_tb4 {w : Jvm.Cond} (h : w ∈ tables_1_4) : w ∈ lw_tbl := List.mem_append_right _ (List.mem_append_right _ (List.mem_append_right _ (List.mem_append_right _ (List.mem_append_left _ h))))
theorem zz_tb5 {w : Jvm.Cond} (h : w ∈ tables_1_5) : w ∈ lw_tbl := List.mem_append_right _ (List.mem_append_right _ (List.mem_append_right _ (List.mem_append_right _ (List.mem_append_right _ (List.mem_append_left _ h)))))
theorem zz_tb6 {w : Jvm.Cond} (h : w ∈ tables_1_6) : w ∈ lw_tbl := List.mem_append_right _ (List.mem_append_right _ (List.mem_append_right _ (List.mem_append_right _ (List.mem_append_right _ (List.mem_append_right _ (List.mem_append_left _ h))))))
theorem zz_tb7 {w : Jvm.Cond} (h : w ∈ tables_1_7) : w ∈ lw_tbl := List.mem_append_right _ (List.mem_append_right _ (List.mem_append_right _ (List.mem_append_right _ (List.mem_append_right _ (List.mem_append_right _ (List.mem_append_right _ (h)))))))
def zz_cd (m : Nat) : Prop := 0 < m → Jvm.Cond.code (zz_y m) (zz_bc m) (zz_nl m) (zz_re m) ∈ lw_tbl
theorem zz_cd_0 : zz_cd 0 := fun h => absurd h (by decide)
set_option maxRecDepth 20000 in
theorem zz_cd_1 : zz_cd 1 := fun _ => zz_tb1 (List.mem_of_getElem? (i := 20) rfl)
set_option maxRecDepth 20000 in
theorem zz_cd_2 : zz_cd 2 := fun _ => zz_tb1 (List.mem_of_getElem? (i := 28) rfl)
set_option maxRecDepth 20000 in
theorem zz_cd_3 : zz_cd 3 := fun _ => zz_tb1 (List.mem_of_getElem? (i := 36) rfl)
set_option maxRecDepth 20000 in
theorem zz_cd_4 : zz_cd 4 := fun _ => zz_tb1 (List.mem_of_getElem? (i := 83) rfl)
set_option maxRecDepth 20000 in
theorem zz_cd_5 : zz_cd 5 := fun _ => zz_tb1 (List.mem_of_getElem? (i := 142) rfl)
set_option maxRecDepth 20000 in
theorem zz_cd_6 : zz_cd 6 := fun _ => zz_tb1 (List.mem_of_getElem? (i := 162) rfl)
set_option maxRecDepth 20000 in
theorem zz_cd_7 : zz_cd 7 := fun _ => zz_tb1 (List.mem_of_getElem? (i := 196) rfl)
set_option maxRecDepth 20000 in
theorem zz_cd_8 : zz_cd 8 := fun _ => zz_tb1 (List.mem_of_getElem? (i := 212) rfl)
set_option maxRecDepth 20000 in
theorem zz_cd_9 : zz_cd 9 := fun _ => zz_tb1 (List.mem_of_getElem? (i := 227) rfl)
set_option maxRecDepth 20000 in
theorem zz_cd_10 : zz_cd 10 := fun _ => zz_tb2 (List.mem_of_getElem? (i := 27) rfl)
set_option maxRecDepth 20000 in
theorem zz_cd_11 : zz_cd 11 := fun _ => zz_tb2 (List.mem_of_getElem? (i := 102) rfl)
set_option maxRecDepth 20000 in
theorem zz_cd_12 : zz_cd 12 := fun _ => zz_tb2 (List.mem_of_getElem? (i := 106) rfl)
set_option maxRecDepth 20000 in
theorem zz_cd_13 : zz_cd 13 := fun _ => zz_tb2 (List.mem_of_getElem? (i := 110) rfl)
set_option maxRecDepth 20000 in
theorem zz_cd_14 : zz_cd 14 := fun _ => zz_tb2 (List.mem_of_getElem? (i := 113) rfl)
set_option maxRecDepth 20000 in
theorem zz_cd_15 : zz_cd 15 := fun _ => zz_tb2 (List.mem_of_getElem? (i := 117) rfl)
set_option maxRecDepth 20000 in
theorem zz_cd_16 : zz_cd 16 := fun _ => zz_tb2 (List.mem_of_getElem? (i := 121) rfl)
set_option maxRecDepth 20000 in
theorem zz_cd_17 : zz_cd 17 := fun _ => zz_tb2 (List.mem_of_getElem? (i := 125) rfl)
set_option maxRecDepth 20000 in
theorem zz_cd_18 : zz_cd 18 := fun _ => zz_tb2 (List.mem_of_getElem? (i := 132) rfl)
set_option maxRecDepth 20000 in
theorem zz_cd_19 : zz_cd 19 := fun _ => zz_tb2 (List.mem_of_getElem? (i := 136) rfl)
set_option maxRecDepth 20000 in
theorem zz_cd_20 : zz_cd 20 := fun _ => zz_tb2 (List.mem_of_getElem? (i := 140) rfl)
set_option maxRecDepth 20000 in
theorem zz_cd_21 : zz_cd 21 := fun _ => zz_tb2 (List.mem_of_getElem? (i := 144) rfl)
set_option maxRecDepth 20000 in
theorem zz_cd_22 : zz_cd 22 := fun _ => zz_tb2 (List.mem_of_getElem? (i := 148) rfl)
set_option maxRecDepth 20000 in
theorem zz_cd_23 : zz_cd 23 := fun _ => zz_tb2 (List.mem_of_getElem? (i := 151) rfl)
set_option maxRecDepth 20000 in
theorem zz_cd_24 : zz_cd 24 := fun _ => zz_tb2 (List.mem_of_getElem? (i := 154) rfl)
set_option maxRecDepth 20000 in
theorem zz_cd_25 : zz_cd 25 := fun _ => zz_tb2 (List.mem_of_getElem? (i := 158) rfl)
set_option maxRecDepth 20000 in
theorem zz_cd_26 : zz_cd 26 := fun _ => zz_tb2 (List.mem_of_getElem? (i := 165) rfl)
set_option maxRecDepth 20000 in
theorem zz_cd_27 : zz_cd 27 := fun _ => zz_tb2 (List.mem_of_getElem? (i := 169) rfl)
set_option maxRecDepth 20000 in
theorem zz_cd_28 : zz_cd 28 := fun _ => zz_tb2 (List.mem_of_getElem? (i := 174) rfl)
set_option maxRecDepth 20000 in
theorem zz_cd_29 : zz_cd 29 := fun _ => zz_tb2 (List.mem_of_getElem? (i := 178) rfl)
set_option maxRecDepth 20000 in
theorem zz_cd_30 : zz_cd 30 := fun _ => zz_tb2 (List.mem_of_getElem? (i := 182) rfl)
set_option maxRecDepth 20000 in
theorem zz_cd_31 : zz_cd 31 := fun _ => zz_tb2 (List.mem_of_getElem? (i := 186) rfl)
set_option maxRecDepth 20000 in
theorem zz_cd_32 : zz_cd 32 := fun _ => zz_tb2 (List.mem_of_getElem? (i := 191) rfl)
set_option maxRecDepth 20000 in
theorem zz_cd_33 : zz_cd 33 := fun _ => zz_tb2 (List.mem_of_getElem? (i := 196) rfl)
set_option maxRecDepth 20000 in
theorem zz_cd_34 : zz_cd 34 := fun _ => zz_tb2 (List.mem_of_getElem? (i := 199) rfl)
set_option maxRecDepth 20000 in
theorem zz_cd_35 : zz_cd 35 := fun _ => zz_tb2 (List.mem_of_getElem? (i := 204) rfl)
set_option maxRecDepth 20000 in
theorem zz_cd_36 : zz_cd 36 := fun _ => zz_tb2 (List.mem_of_getElem? (i := 208) rfl)
set_option maxRecDepth 20000 in
theorem zz_cd_37 : zz_cd 37 := fun _ => zz_tb2 (List.mem_of_getElem? (i := 211) rfl)
set_option maxRecDepth 20000 in
theorem zz_cd_38 : zz_cd 38 := fun _ => zz_tb2 (List.mem_of_getElem? (i := 215) rfl)
set_option maxRecDepth 20000 in
theorem zz_cd_39 : zz_cd 39 := fun _ => zz_tb2 (List.mem_of_getElem? (i := 219) rfl)
set_option maxRecDepth 20000 in
theorem zz_cd_40 : zz_cd 40 := fun _ => zz_tb2 (List.mem_of_getElem? (i := 223) rfl)
set_option maxRecDepth 20000 in
theorem zz_cd_41 : zz_cd 41 := fun _ => zz_tb2 (List.mem_of_getElem? (i := 231) rfl)
set_option maxRecDepth 20000 in
theorem zz_cd_42 : zz_cd 42 := fun _ => zz_tb2 (List.mem_of_getElem? (i := 234) rfl)
set_option maxRecDepth 20000 in
theorem zz_cd_43 : zz_cd 43 := fun _ => zz_tb2 (List.mem_of_getElem? (i := 239) rfl)
set_option maxRecDepth 20000 in
theorem zz_cd_44 : zz_cd 44 := fun _ => zz_tb3 (List.mem_of_getElem? (i := 3) rfl)
set_option maxRecDepth 20000 in
theorem zz_cd_45 : zz_cd 45 := fun _ => zz_tb3 (List.mem_of_getElem? (i := 11) rfl)
set_option maxRecDepth 20000 in
theorem zz_cd_46 : zz_cd 46 := fun _ => zz_tb3 (List.mem_of_getElem? (i := 14) rfl)
set_option maxRecDepth 20000 in
theorem zz_cd_47 : zz_cd 47 := fun _ => zz_tb3 (List.mem_of_getElem? (i := 17) rfl)
set_option maxRecDepth 20000 in
theorem zz_cd_48 : zz_cd 48 := fun _ => zz_tb3 (List.mem_of_getElem? (i := 22) rfl)
set_option maxRecDepth 20000 in
theorem zz_cd_49 : zz_cd 49 := fun _ => zz_tb3 (List.mem_of_getElem? (i := 27) rfl)
set_option maxRecDepth 20000 in
theorem zz_cd_50 : zz_cd 50 := fun _ => zz_tb3 (List.mem_of_getElem? (i := 30) rfl)
set_option maxRecDepth 20000 in
theorem zz_cd_51 : zz_cd 51 := fun _ => zz_tb3 (List.mem_of_getElem? (i := 33) rfl)
set_option maxRecDepth 20000 in
theorem zz_cd_52 : zz_cd 52 := fun _ => zz_tb3 (List.mem_of_getElem? (i := 36) rfl)
set_option maxRecDepth 20000 in
theorem zz_cd_53 : zz_cd 53 := fun _ => zz_tb3 (List.mem_of_getElem? (i := 40) rfl)
set_option maxRecDepth 20000 in
theorem zz_cd_54 : zz_cd 54 := fun _ => zz_tb3 (List.mem_of_getElem? (i := 44) rfl)
set_option maxRecDepth 20000 in
theorem zz_cd_55 : zz_cd 55 := fun _ => zz_tb3 (List.mem_of_getElem? (i := 50) rfl)
set_option maxRecDepth 20000 in
theorem zz_cd_56 : zz_cd 56 := fun _ => zz_tb3 (List.mem_of_getElem? (i := 53) rfl)
set_option maxRecDepth 20000 in
theorem zz_cd_57 : zz_cd 57 := fun _ => zz_tb3 (List.mem_of_getElem? (i := 63) rfl)
set_option maxRecDepth 20000 in
theorem zz_cd_58 : zz_cd 58 := fun _ => zz_tb3 (List.mem_of_getElem? (i := 67) rfl)
set_option maxRecDepth 20000 in
theorem zz_cd_59 : zz_cd 59 := fun _ => zz_tb3 (List.mem_of_getElem? (i := 72) rfl)
set_option maxRecDepth 20000 in
theorem zz_cd_60 : zz_cd 60 := fun _ => zz_tb3 (List.mem_of_getElem? (i := 76) rfl)
set_option maxRecDepth 20000 in
theorem zz_cd_61 : zz_cd 61 := fun _ => zz_tb3 (List.mem_of_getElem? (i := 84) rfl)
set_option maxRecDepth 20000 in
theorem zz_cd_62 : zz_cd 62 := fun _ => zz_tb3 (List.mem_of_getElem? (i := 88) rfl)
set_option maxRecDepth 20000 in
theorem zz_cd_63 : zz_cd 63 := fun _ => zz_tb3 (List.mem_of_getElem? (i := 92) rfl)
set_option maxRecDepth 20000 in
theorem zz_cd_64 : zz_cd 64 := fun _ => zz_tb3 (List.mem_of_getElem? (i := 96) rfl)
set_option maxRecDepth 20000 in
theorem zz_cd_65 : zz_cd 65 := fun _ => zz_tb3 (List.mem_of_getElem? (i := 100) rfl)
set_option maxRecDepth 20000 in
theorem zz_cd_66 : zz_cd 66 := fun _ => zz_tb3 (List.mem_of_getElem? (i := 103) rfl)
set_option maxRecDepth 20000 in
theorem zz_cd_67 : zz_cd 67 := fun _ => zz_tb3 (List.mem_of_getElem? (i := 108) rfl)
set_option maxRecDepth 20000 in
theorem zz_cd_68 : zz_cd 68 := fun _ => zz_tb3 (List.mem_of_getElem? (i := 113) rfl)
set_option maxRecDepth 20000 in
theorem zz_cd_69 : zz_cd 69 := fun _ => zz_tb3 (List.mem_of_getElem? (i := 117) rfl)
set_option maxRecDepth 20000 in
theorem zz_cd_70 : zz_cd 70 := fun _ => zz_tb3 (List.mem_of_getElem? (i := 121) rfl)
set_option maxRecDepth 20000 in
theorem zz_cd_71 : zz_cd 71 := fun _ => zz_tb3 (List.mem_of_getElem? (i := 125) rfl)
set_option maxRecDepth 20000 in
theorem zz_cd_72 : zz_cd 72 := fun _ => zz_tb3 (List.mem_of_getElem? (i := 129) rfl)
set_option maxRecDepth 20000 in
theorem zz_cd_73 : zz_cd 73 := fun _ => zz_tb3 (List.mem_of_getElem? (i := 133) rfl)
set_option maxRecDepth 20000 in
theorem zz_cd_74 : zz_cd 74 := fun _ => zz_tb3 (List.mem_of_getElem? (i := 137) rfl)
set_option maxRecDepth 20000 in
theorem zz_cd_75 : zz_cd 75 := fun _ => zz_tb3 (List.mem_of_getElem? (i := 141) rfl)
set_option maxRecDepth 20000 in
theorem zz_cd_76 : zz_cd 76 := fun _ => zz_tb3 (List.mem_of_getElem? (i := 146) rfl)
set_option maxRecDepth 20000 in
theorem zz_cd_77 : zz_cd 77 := fun _ => zz_tb3 (List.mem_of_getElem? (i := 149) rfl)
set_option maxRecDepth 20000 in
theorem zz_cd_78 : zz_cd 78 := fun _ => zz_tb3 (List.mem_of_getElem? (i := 154) rfl)
set_option maxRecDepth 20000 in
theorem zz_cd_79 : zz_cd 79 := fun _ => zz_tb3 (List.mem_of_getElem? (i := 159) rfl)
set_option maxRecDepth 20000 in
theorem zz_cd_80 : zz_cd 80 := fun _ => zz_tb3 (List.mem_of_getElem? (i := 164) rfl)
set_option maxRecDepth 20000 in
theorem zz_cd_81 : zz_cd 81 := fun _ => zz_tb3 (List.mem_of_getElem? (i := 167) rfl)
set_option maxRecDepth 20000 in
theorem zz_cd_82 : zz_cd 82 := fun _ => zz_tb3 (List.mem_of_getElem? (i := 170) rfl)
set_option maxRecDepth 20000 in
theorem zz_cd_83 : zz_cd 83 := fun _ => zz_tb3 (List.mem_of_getElem? (i := 175) rfl)
set_option maxRecDepth 20000 in
theorem zz_cd_84 : zz_cd 84 := fun _ => zz_tb3 (List.mem_of_getElem? (i := 179) rfl)
set_option maxRecDepth 20000 in
theorem zz_cd_85 : zz_cd 85 := fun _ => zz_tb3 (List.mem_of_getElem? (i := 183) rfl)
set_option maxRecDepth 20000 in
theorem zz_cd_86 : zz_cd 86 := fun _ => zz_tb3 (List.mem_of_getElem? (i := 187) rfl)
set_option maxRecDepth 20000 in
theorem zz_cd_87 : zz_cd 87 := fun _ => zz_tb3 (List.mem_of_getElem? (i := 192) rfl)
set_option maxRecDepth 20000 in
theorem zz_cd_88 : zz_cd 88 := fun _ => zz_tb3 (List.mem_of_getElem? (i := 196) rfl)
set_option maxRecDepth 20000 in
theorem zz_cd_89 : zz_cd 89 := fun _ => zz_tb3 (List.mem_of_getElem? (i := 201) rfl)
set_option maxRecDepth 20000 in
theorem zz_cd_90 : zz_cd 90 := fun _ => zz_tb3 (List.mem_of_getElem? (i := 205) rfl)
set_option maxRecDepth 20000 in
theorem zz_cd_91 : zz_cd 91 := fun _ => zz_tb3 (List.mem_of_getElem? (i := 209) rfl)
set_option maxRecDepth 20000 in
theorem zz_cd_92 : zz_cd 92 := fun _ => zz_tb3 (List.mem_of_getElem? (i := 213) rfl)
set_option maxRecDepth 20000 in
theorem zz_cd_93 : zz_cd 93 := fun _ => zz_tb3 (List.mem_of_getElem? (i := 217) rfl)
set_option maxRecDepth 20000 in
theorem zz_cd_94 : zz_cd 94 := fun _ => zz_tb3 (List.mem_of_getElem? (i := 220) rfl)
set_option maxRecDepth 20000 in
theorem zz_cd_95 : zz_cd 95 := fun _ => zz_tb3 (List.mem_of_getElem? (i := 227) rfl)
set_option maxRecDepth 20000 in
theorem zz_cd_96 : zz_cd 96 := fun _ => zz_tb3 (List.mem_of_getElem? (i := 231) rfl)
set_option maxRecDepth 20000 in
theorem zz_cd_97 : zz_cd 97 := fun _ => zz_tb3 (List.mem_of_getElem? (i := 235) rfl)
set_option maxRecDepth 20000 in
theorem zz_cd_98 : zz_cd 98 := fun _ => zz_tb4 (List.mem_of_getElem? (i := 0) rfl)
set_option maxRecDepth 20000 in
theorem zz_cd_99 : zz_cd 99 := fun _ => zz_tb4 (List.mem_of_getElem? (i := 4) rfl)
set_option maxRecDepth 20000 in
theorem zz_cd_100 : zz_cd 100 := fun _ => zz_tb4 (List.mem_of_getElem? (i := 8) rfl)
set_option maxRecDepth 20000 in
theorem zz_cd_101 : zz_cd 101 := fun _ => zz_tb4 (List.mem_of_getElem? (i := 12) rfl)
set_option maxRecDepth 20000 in
theorem zz_cd_102 : zz_cd 102 := fun _ => zz_tb4 (List.mem_of_getElem? (i := 16) rfl)
set_option maxRecDepth 20000 in
theorem zz_cd_103 : zz_cd 103 := fun _ => zz_tb4 (List.mem_of_getElem? (i := 20) rfl)
set_option maxRecDepth 20000 in
theorem zz_cd_104 : zz_cd 104 := fun _ => zz_tb4 (List.mem_of_getElem? (i := 27) rfl)
set_option maxRecDepth 20000 in
theorem zz_cd_105 : zz_cd 105 := fun _ => zz_tb4 (List.mem_of_getElem? (i := 31) rfl)
set_option maxRecDepth 20000 in
theorem zz_cd_106 : zz_cd 106 := fun _ => zz_tb4 (List.mem_of_getElem? (i := 38) rfl)
set_option maxRecDepth 20000 in
theorem zz_cd_107 : zz_cd 107 := fun _ => zz_tb4 (List.mem_of_getElem? (i := 43) rfl)
set_option maxRecDepth 20000 in
theorem zz_cd_108 : zz_cd 108 := fun _ => zz_tb4 (List.mem_of_getElem? (i := 47) rfl)
set_option maxRecDepth 20000 in
theorem zz_cd_109 : zz_cd 109 := fun _ => zz_tb4 (List.mem_of_getElem? (i := 50) rfl)
set_option maxRecDepth 20000 in
theorem zz_cd_110 : zz_cd 110 := fun _ => zz_tb4 (List.mem_of_getElem? (i := 57) rfl)
set_option maxRecDepth 20000 in
theorem zz_cd_111 : zz_cd 111 := fun _ => zz_tb4 (List.mem_of_getElem? (i := 62) rfl)
set_option maxRecDepth 20000 in
theorem zz_cd_112 : zz_cd 112 := fun _ => zz_tb4 (List.mem_of_getElem? (i := 66) rfl)
set_option maxRecDepth 20000 in
theorem zz_cd_113 : zz_cd 113 := fun _ => zz_tb4 (List.mem_of_getElem? (i := 70) rfl)
set_option maxRecDepth 20000 in
theorem zz_cd_114 : zz_cd 114 := fun _ => zz_tb4 (List.mem_of_getElem? (i := 75) rfl)
set_option maxRecDepth 20000 in
theorem zz_cd_115 : zz_cd 115 := fun _ => zz_tb4 (List.mem_of_getElem? (i := 80) rfl)
set_option maxRecDepth 20000 in
theorem zz_cd_116 : zz_cd 116 := fun _ => zz_tb4 (List.mem_of_getElem? (i := 84) rfl)
set_option maxRecDepth 20000 in
theorem zz_cd_117 : zz_cd 117 := fun _ => zz_tb4 (List.mem_of_getElem? (i := 88) rfl)
set_option maxRecDepth 20000 in
theorem zz_cd_118 : zz_cd 118 := fun _ => zz_tb4 (List.mem_of_getElem? (i := 92) rfl)
set_option maxRecDepth 20000 in
theorem zz_cd_119 : zz_cd 119 := fun _ => zz_tb4 (List.mem_of_getElem? (i := 96) rfl)
set_option maxRecDepth 20000 in
theorem zz_cd_120 : zz_cd 120 := fun _ => zz_tb4 (List.mem_of_getElem? (i := 100) rfl)
set_option maxRecDepth 20000 in
theorem zz_cd_121 : zz_cd 121 := fun _ => zz_tb4 (List.mem_of_getElem? (i := 105) rfl)
set_option maxRecDepth 20000 in
theorem zz_cd_122 : zz_cd 122 := fun _ => zz_tb4 (List.mem_of_getElem? (i := 109) rfl)
set_option maxRecDepth 20000 in
theorem zz_cd_123 : zz_cd 123 := fun _ => zz_tb4 (List.mem_of_getElem? (i := 112) rfl)
set_option maxRecDepth 20000 in
theorem zz_cd_124 : zz_cd 124 := fun _ => zz_tb4 (List.mem_of_getElem? (i := 119) rfl)
set_option maxRecDepth 20000 in
theorem zz_cd_125 : zz_cd 125 := fun _ => zz_tb4 (List.mem_of_getElem? (i := 122) rfl)
set_option maxRecDepth 20000 in
theorem zz_cd_126 : zz_cd 126 := fun _ => zz_tb4 (List.mem_of_getElem? (i := 126) rfl)
set_option maxRecDepth 20000 in
theorem zz_cd_127 : zz_cd 127 := fun _ => zz_tb4 (List.mem_of_getElem? (i := 130) rfl)
set_option maxRecDepth 20000 in
theorem zz_cd_128 : zz_cd 128 := fun _ => zz_tb4 (List.mem_of_getElem? (i := 134) rfl)
set_option maxRecDepth 20000 in
theorem zz_cd_129 : zz_cd 129 := fun _ => zz_tb4 (List.mem_of_getElem? (i := 138) rfl)
set_option maxRecDepth 20000 in
theorem zz_cd_130 : zz_cd 130 := fun _ => zz_tb4 (List.mem_of_getElem? (i := 142) rfl)
set_option maxRecDepth 20000 in
theorem zz_cd_131 : zz_cd 131 := fun _ => zz_tb4 (List.mem_of_getElem? (i := 146) rfl)
set_option maxRecDepth 20000 in
theorem zz_cd_132 : zz_cd 132 := fun _ => zz_tb4 (List.mem_of_getElem? (i := 150) rfl)
set_option maxRecDepth 20000 in
theorem zz_cd_133 : zz_cd 133 := fun _ => zz_tb4 (List.mem_of_getElem? (i := 154) rfl)
set_option maxRecDepth 20000 in
theorem zz_cd_134 : zz_cd 134 := fun _ => zz_tb4 (List.mem_of_getElem? (i := 158) rfl)
set_option maxRecDepth 20000 in
theorem zz_cd_135 : zz_cd 135 := fun _ => zz_tb4 (List.mem_of_getElem? (i := 165) rfl)
set_option maxRecDepth 20000 in
theorem zz_cd_136 : zz_cd 136 := fun _ => zz_tb4 (List.mem_of_getElem? (i := 169) rfl)
set_option maxRecDepth 20000 in
theorem zz_cd_137 : zz_cd 137 := fun _ => zz_tb4 (List.mem_of_getElem? (i := 175) rfl)
set_option maxRecDepth 20000 in
theorem zz_cd_138 : zz_cd 138 := fun _ => zz_tb4 (List.mem_of_getElem? (i := 179) rfl)
set_option maxRecDepth 20000 in
theorem zz_cd_139 : zz_cd 139 := fun _ => zz_tb4 (List.mem_of_getElem? (i := 183) rfl)
set_option maxRecDepth 20000 in
theorem zz_cd_140 : zz_cd 140 := fun _ => zz_tb4 (List.mem_of_getElem? (i := 187) rfl)
set_option maxRecDepth 20000 in
theorem zz_cd_141 : zz_cd 141 := fun _ => zz_tb4 (List.mem_of_getElem? (i := 195) rfl)
set_option maxRecDepth 20000 in
theorem zz_cd_142 : zz_cd 142 := fun _ => zz_tb4 (List.mem_of_getElem? (i := 199) rfl)
set_option maxRecDepth 20000 in
theorem zz_cd_143 : zz_cd 143 := fun _ => zz_tb4 (List.mem_of_getElem? (i := 203) rfl)
set_option maxRecDepth 20000 in
theorem zz_cd_144 : zz_cd 144 := fun _ => zz_tb4 (List.mem_of_getElem? (i := 207) rfl)
set_option maxRecDepth 20000 in
theorem zz_cd_145 : zz_cd 145 := fun _ => zz_tb4 (List.mem_of_getElem? (i := 211) rfl)
set_option maxRecDepth 20000 in
theorem zz_cd_146 : zz_cd 146 := fun _ => zz_tb4 (List.mem_of_getElem? (i := 215) rfl)
set_option maxRecDepth 20000 in
theorem zz_cd_147 : zz_cd 147 := fun _ => zz_tb4 (List.mem_of_getElem? (i := 219) rfl)
set_option maxRecDepth 20000 in
theorem zz_cd_148 : zz_cd 148 := fun _ => zz_tb4 (List.mem_of_getElem? (i := 223) rfl)
set_option maxRecDepth 20000 in
theorem zz_cd_149 : zz_cd 149 := fun _ => zz_tb4 (List.mem_of_getElem? (i := 228) rfl)
set_option maxRecDepth 20000 in
theorem zz_cd_150 : zz_cd 150 := fun _ => zz_tb4 (List.mem_of_getElem? (i := 233) rfl)
set_option maxRecDepth 20000 in
theorem zz_cd_151 : zz_cd 151 := fun _ => zz_tb5 (List.mem_of_getElem? (i := 114) rfl)
set_option maxRecDepth 20000 in
theorem zz_cd_152 : zz_cd 152 := fun _ => zz_tb5 (List.mem_of_getElem? (i := 118) rfl)
set_option maxRecDepth 20000 in
theorem zz_cd_153 : zz_cd 153 := fun _ => zz_tb5 (List.mem_of_getElem? (i := 122) rfl)
set_option maxRecDepth 20000 in
theorem zz_cd_154 : zz_cd 154 := fun _ => zz_tb5 (List.mem_of_getElem? (i := 125) rfl)
set_option maxRecDepth 20000 in
theorem zz_cd_155 : zz_cd 155 := fun _ => zz_tb5 (List.mem_of_getElem? (i := 129) rfl)
set_option maxRecDepth 20000 in
theorem zz_cd_156 : zz_cd 156 := fun _ => zz_tb5 (List.mem_of_getElem? (i := 133) rfl)
set_option maxRecDepth 20000 in
theorem zz_cd_157 : zz_cd 157 := fun _ => zz_tb5 (List.mem_of_getElem? (i := 137) rfl)
set_option maxRecDepth 20000 in
theorem zz_cd_158 : zz_cd 158 := fun _ => zz_tb5 (List.mem_of_getElem? (i := 141) rfl)
set_option maxRecDepth 20000 in
theorem zz_cd_159 : zz_cd 159 := fun _ => zz_tb5 (List.mem_of_getElem? (i := 145) rfl)
set_option maxRecDepth 20000 in
theorem zz_cd_160 : zz_cd 160 := fun _ => zz_tb5 (List.mem_of_getElem? (i := 149) rfl)
set_option maxRecDepth 20000 in
theorem zz_cd_161 : zz_cd 161 := fun _ => zz_tb5 (List.mem_of_getElem? (i := 153) rfl)
set_option maxRecDepth 20000 in
theorem zz_cd_162 : zz_cd 162 := fun _ => zz_tb5 (List.mem_of_getElem? (i := 157) rfl)
set_option maxRecDepth 20000 in
theorem zz_cd_163 : zz_cd 163 := fun _ => zz_tb5 (List.mem_of_getElem? (i := 161) rfl)
set_option maxRecDepth 20000 in
theorem zz_cd_164 : zz_cd 164 := fun _ => zz_tb5 (List.mem_of_getElem? (i := 164) rfl)
set_option maxRecDepth 20000 in
theorem zz_cd_165 : zz_cd 165 := fun _ => zz_tb5 (List.mem_of_getElem? (i := 168) rfl)
set_option maxRecDepth 20000 in
theorem zz_cd_166 : zz_cd 166 := fun _ => zz_tb5 (List.mem_of_getElem? (i := 172) rfl)
set_option maxRecDepth 20000 in
theorem zz_cd_167 : zz_cd 167 := fun _ => zz_tb5 (List.mem_of_getElem? (i := 176) rfl)
set_option maxRecDepth 20000 in
theorem zz_cd_168 : zz_cd 168 := fun _ => zz_tb5 (List.mem_of_getElem? (i := 180) rfl)
set_option maxRecDepth 20000 in
theorem zz_cd_169 : zz_cd 169 := fun _ => zz_tb5 (List.mem_of_getElem? (i := 184) rfl)
set_option maxRecDepth 20000 in
theorem zz_cd_170 : zz_cd 170 := fun _ => zz_tb5 (List.mem_of_getElem? (i := 190) rfl)
set_option maxRecDepth 20000 in
theorem zz_cd_171 : zz_cd 171 := fun _ => zz_tb5 (List.mem_of_getElem? (i := 194) rfl)
set_option maxRecDepth 20000 in
theorem zz_cd_172 : zz_cd 172 := fun _ => zz_tb5 (List.mem_of_getElem? (i := 197) rfl)
set_option maxRecDepth 20000 in
theorem zz_cd_173 : zz_cd 173 := fun _ => zz_tb5 (List.mem_of_getElem? (i := 201) rfl)
set_option maxRecDepth 20000 in
theorem zz_cd_174 : zz_cd 174 := fun _ => zz_tb5 (List.mem_of_getElem? (i := 205) rfl)
set_option maxRecDepth 20000 in
theorem zz_cd_175 : zz_cd 175 := fun _ => zz_tb5 (List.mem_of_getElem? (i := 208) rfl)
set_option maxRecDepth 20000 in
theorem zz_cd_176 : zz_cd 176 := fun _ => zz_tb5 (List.mem_of_getElem? (i := 212) rfl)
set_option maxRecDepth 20000 in
theorem zz_cd_177 : zz_cd 177 := fun _ => zz_tb5 (List.mem_of_getElem? (i := 217) rfl)
set_option maxRecDepth 20000 in
theorem zz_cd_178 : zz_cd 178 := fun _ => zz_tb5 (List.mem_of_getElem? (i := 221) rfl)
set_option maxRecDepth 20000 in
theorem zz_cd_179 : zz_cd 179 := fun _ => zz_tb5 (List.mem_of_getElem? (i := 225) rfl)
set_option maxRecDepth 20000 in
theorem zz_cd_180 : zz_cd 180 := fun _ => zz_tb5 (List.mem_of_getElem? (i := 229) rfl)
set_option maxRecDepth 20000 in
theorem zz_cd_181 : zz_cd 181 := fun _ => zz_tb5 (List.mem_of_getElem? (i := 233) rfl)
set_option maxRecDepth 20000 in
theorem zz_cd_182 : zz_cd 182 := fun _ => zz_tb5 (List.mem_of_getElem? (i := 237) rfl)
set_option maxRecDepth 20000 in
theorem zz_cd_183 : zz_cd 183 := fun _ => zz_tb6 (List.mem_of_getElem? (i := 1) rfl)
set_option maxRecDepth 20000 in
theorem zz_cd_184 : zz_cd 184 := fun _ => zz_tb6 (List.mem_of_getElem? (i := 5) rfl)
set_option maxRecDepth 20000 in
theorem zz_cd_185 : zz_cd 185 := fun _ => zz_tb6 (List.mem_of_getElem? (i := 9) rfl)
set_option maxRecDepth 20000 in
theorem zz_cd_186 : zz_cd 186 := fun _ => zz_tb6 (List.mem_of_getElem? (i := 13) rfl)
set_option maxRecDepth 20000 in
theorem zz_cd_187 : zz_cd 187 := fun _ => zz_tb6 (List.mem_of_getElem? (i := 16) rfl)
set_option maxRecDepth 20000 in
theorem zz_cd_188 : zz_cd 188 := fun _ => zz_tb6 (List.mem_of_getElem? (i := 20) rfl)
set_option maxRecDepth 20000 in
theorem zz_cd_189 : zz_cd 189 := fun _ => zz_tb6 (List.mem_of_getElem? (i := 28) rfl)
set_option maxRecDepth 20000 in
theorem zz_cd_190 : zz_cd 190 := fun _ => zz_tb6 (List.mem_of_getElem? (i := 32) rfl)
set_option maxRecDepth 20000 in
theorem zz_cd_191 : zz_cd 191 := fun _ => zz_tb6 (List.mem_of_getElem? (i := 36) rfl)
set_option maxRecDepth 20000 in
theorem zz_cd_192 : zz_cd 192 := fun _ => zz_tb6 (List.mem_of_getElem? (i := 40) rfl)
set_option maxRecDepth 20000 in
theorem zz_cd_193 : zz_cd 193 := fun _ => zz_tb6 (List.mem_of_getElem? (i := 43) rfl)
set_option maxRecDepth 20000 in
theorem zz_cd_194 : zz_cd 194 := fun _ => zz_tb6 (List.mem_of_getElem? (i := 48) rfl)
set_option maxRecDepth 20000 in
theorem zz_cd_195 : zz_cd 195 := fun _ => zz_tb6 (List.mem_of_getElem? (i := 52) rfl)
set_option maxRecDepth 20000 in
theorem zz_cd_196 : zz_cd 196 := fun _ => zz_tb6 (List.mem_of_getElem? (i := 56) rfl)
set_option maxRecDepth 20000 in
theorem zz_cd_197 : zz_cd 197 := fun _ => zz_tb6 (List.mem_of_getElem? (i := 59) rfl)
set_option maxRecDepth 20000 in
theorem zz_cd_198 : zz_cd 198 := fun _ => zz_tb6 (List.mem_of_getElem? (i := 64) rfl)
set_option maxRecDepth 20000 in
theorem zz_cd_199 : zz_cd 199 := fun _ => zz_tb6 (List.mem_of_getElem? (i := 67) rfl)
set_option maxRecDepth 20000 in
theorem zz_cd_200 : zz_cd 200 := fun _ => zz_tb6 (List.mem_of_getElem? (i := 71) rfl)
set_option maxRecDepth 20000 in
theorem zz_cd_201 : zz_cd 201 := fun _ => zz_tb6 (List.mem_of_getElem? (i := 75) rfl)
set_option maxRecDepth 20000 in
theorem zz_cd_202 : zz_cd 202 := fun _ => zz_tb6 (List.mem_of_getElem? (i := 79) rfl)
set_option maxRecDepth 20000 in
theorem zz_cd_203 : zz_cd 203 := fun _ => zz_tb6 (List.mem_of_getElem? (i := 84) rfl)
set_option maxRecDepth 20000 in
theorem zz_cd_204 : zz_cd 204 := fun _ => zz_tb6 (List.mem_of_getElem? (i := 88) rfl)
set_option maxRecDepth 20000 in
theorem zz_cd_205 : zz_cd 205 := fun _ => zz_tb6 (List.mem_of_getElem? (i := 92) rfl)
set_option maxRecDepth 20000 in
theorem zz_cd_206 : zz_cd 206 := fun _ => zz_tb6 (List.mem_of_getElem? (i := 96) rfl)
set_option maxRecDepth 20000 in
theorem zz_cd_207 : zz_cd 207 := fun _ => zz_tb6 (List.mem_of_getElem? (i := 100) rfl)
set_option maxRecDepth 20000 in
theorem zz_cd_208 : zz_cd 208 := fun _ => zz_tb6 (List.mem_of_getElem? (i := 105) rfl)
set_option maxRecDepth 20000 in
theorem zz_cd_209 : zz_cd 209 := fun _ => zz_tb6 (List.mem_of_getElem? (i := 110) rfl)
set_option maxRecDepth 20000 in
theorem zz_cd_210 : zz_cd 210 := fun _ => zz_tb6 (List.mem_of_getElem? (i := 114) rfl)
set_option maxRecDepth 20000 in
theorem zz_cd_211 : zz_cd 211 := fun _ => zz_tb6 (List.mem_of_getElem? (i := 118) rfl)
set_option maxRecDepth 20000 in
theorem zz_cd_212 : zz_cd 212 := fun _ => zz_tb6 (List.mem_of_getElem? (i := 122) rfl)
set_option maxRecDepth 20000 in
theorem zz_cd_213 : zz_cd 213 := fun _ => zz_tb6 (List.mem_of_getElem? (i := 126) rfl)
set_option maxRecDepth 20000 in
theorem zz_cd_214 : zz_cd 214 := fun _ => zz_tb6 (List.mem_of_getElem? (i := 130) rfl)
set_option maxRecDepth 20000 in
theorem zz_cd_215 : zz_cd 215 := fun _ => zz_tb6 (List.mem_of_getElem? (i := 133) rfl)
set_option maxRecDepth 20000 in
theorem zz_cd_216 : zz_cd 216 := fun _ => zz_tb6 (List.mem_of_getElem? (i := 137) rfl)
set_option maxRecDepth 20000 in
theorem zz_cd_217 : zz_cd 217 := fun _ => zz_tb6 (List.mem_of_getElem? (i := 141) rfl)
set_option maxRecDepth 20000 in
theorem zz_cd_218 : zz_cd 218 := fun _ => zz_tb6 (List.mem_of_getElem? (i := 145) rfl)
set_option maxRecDepth 20000 in
theorem zz_cd_219 : zz_cd 219 := fun _ => zz_tb6 (List.mem_of_getElem? (i := 149) rfl)
set_option maxRecDepth 20000 in
theorem zz_cd_220 : zz_cd 220 := fun _ => zz_tb6 (List.mem_of_getElem? (i := 153) rfl)
set_option maxRecDepth 20000 in
theorem zz_cd_221 : zz_cd 221 := fun _ => zz_tb6 (List.mem_of_getElem? (i := 157) rfl)
set_option maxRecDepth 20000 in
theorem zz_cd_222 : zz_cd 222 := fun _ => zz_tb6 (List.mem_of_getElem? (i := 161) rfl)
set_option maxRecDepth 20000 in
theorem zz_cd_223 : zz_cd 223 := fun _ => zz_tb6 (List.mem_of_getElem? (i := 165) rfl)
set_option maxRecDepth 20000 in
theorem zz_cd_224 : zz_cd 224 := fun _ => zz_tb6 (List.mem_of_getElem? (i := 168) rfl)
set_option maxRecDepth 20000 in
theorem zz_cd_225 : zz_cd 225 := fun _ => zz_tb6 (List.mem_of_getElem? (i := 172) rfl)
set_option maxRecDepth 20000 in
theorem zz_cd_226 : zz_cd 226 := fun _ => zz_tb6 (List.mem_of_getElem? (i := 176) rfl)
set_option maxRecDepth 20000 in
theorem zz_cd_227 : zz_cd 227 := fun _ => zz_tb6 (List.mem_of_getElem? (i := 179) rfl)
set_option maxRecDepth 20000 in
theorem zz_cd_228 : zz_cd 228 := fun _ => zz_tb6 (List.mem_of_getElem? (i := 183) rfl)
set_option maxRecDepth 20000 in
theorem zz_cd_229 : zz_cd 229 := fun _ => zz_tb6 (List.mem_of_getElem? (i := 187) rfl)
set_option maxRecDepth 20000 in
theorem zz_cd_230 : zz_cd 230 := fun _ => zz_tb6 (List.mem_of_getElem? (i := 191) rfl)
set_option maxRecDepth 20000 in
theorem zz_cd_231 : zz_cd 231 := fun _ => zz_tb6 (List.mem_of_getElem? (i := 195) rfl)
set_option maxRecDepth 20000 in
theorem zz_cd_232 : zz_cd 232 := fun _ => zz_tb6 (List.mem_of_getElem? (i := 199) rfl)
set_option maxRecDepth 20000 in
theorem zz_cd_233 : zz_cd 233 := fun _ => zz_tb6 (List.mem_of_getElem? (i := 203) rfl)
set_option maxRecDepth 20000 in
theorem zz_cd_234 : zz_cd 234 := fun _ => zz_tb6 (List.mem_of_getElem? (i := 206) rfl)
set_option maxRecDepth 20000 in
theorem zz_cd_235 : zz_cd 235 := fun _ => zz_tb6 (List.mem_of_getElem? (i := 210) rfl)
set_option maxRecDepth 20000 in
theorem zz_cd_236 : zz_cd 236 := fun _ => zz_tb6 (List.mem_of_getElem? (i := 214) rfl)
set_option maxRecDepth 20000 in
theorem zz_cd_237 : zz_cd 237 := fun _ => zz_tb6 (List.mem_of_getElem? (i := 218) rfl)
set_option maxRecDepth 20000 in
theorem zz_cd_238 : zz_cd 238 := fun _ => zz_tb6 (List.mem_of_getElem? (i := 222) rfl)
set_option maxRecDepth 20000 in
theorem zz_cd_239 : zz_cd 239 := fun _ => zz_tb6 (List.mem_of_getElem? (i := 226) rfl)
set_option maxRecDepth 20000 in
theorem zz_cd_240 : zz_cd 240 := fun _ => zz_tb6 (List.mem_of_getElem? (i := 231) rfl)
set_option maxRecDepth 20000 in
theorem zz_cd_241 : zz_cd 241 := fun _ => zz_tb6 (List.mem_of_getElem? (i := 235) rfl)
set_option maxRecDepth 20000 in
theorem zz_cd_242 : zz_cd 242 := fun _ => zz_tb6 (List.mem_of_getElem? (i := 239) rfl)
set_option maxRecDepth 20000 in
theorem zz_cd_243 : zz_cd 243 := fun _ => zz_tb7 (List.mem_of_getElem? (i := 3) rfl)
set_option maxRecDepth 20000 in
theorem zz_cd_244 : zz_cd 244 := fun _ => zz_tb7 (List.mem_of_getElem? (i := 7) rfl)
set_option maxRecDepth 20000 in
theorem zz_cd_245 : zz_cd 245 := fun _ => zz_tb7 (List.mem_of_getElem? (i := 11) rfl)
set_option maxRecDepth 20000 in
theorem zz_cd_246 : zz_cd 246 := fun _ => zz_tb7 (List.mem_of_getElem? (i := 15) rfl)
set_option maxRecDepth 20000 in
theorem zz_cd_247 : zz_cd 247 := fun _ => zz_tb7 (List.mem_of_getElem? (i := 19) rfl)
set_option maxRecDepth 20000 in
theorem zz_cd_248 : zz_cd 248 := fun _ => zz_tb7 (List.mem_of_getElem? (i := 23) rfl)
set_option maxRecDepth 20000 in
theorem zz_cd_249 : zz_cd 249 := fun _ => zz_tb7 (List.mem_of_getElem? (i := 27) rfl)
set_option maxRecDepth 20000 in
theorem zz_cd_250 : zz_cd 250 := fun _ => zz_tb7 (List.mem_of_getElem? (i := 31) rfl)
set_option maxRecDepth 20000 in
theorem zz_cd_251 : zz_cd 251 := fun _ => zz_tb7 (List.mem_of_getElem? (i := 35) rfl)
set_option maxRecDepth 20000 in
theorem zz_cd_252 : zz_cd 252 := fun _ => zz_tb7 (List.mem_of_getElem? (i := 39) rfl)
set_option maxRecDepth 20000 in
theorem zz_cd_253 : zz_cd 253 := fun _ => zz_tb7 (List.mem_of_getElem? (i := 43) rfl)
set_option maxRecDepth 20000 in
theorem zz_cd_254 : zz_cd 254 := fun _ => zz_tb7 (List.mem_of_getElem? (i := 47) rfl)
set_option maxRecDepth 20000 in
theorem zz_cd_255 : zz_cd 255 := fun _ => zz_tb7 (List.mem_of_getElem? (i := 51) rfl)
set_option maxRecDepth 20000 in
theorem zz_cd_256 : zz_cd 256 := fun _ => zz_tb7 (List.mem_of_getElem? (i := 55) rfl)
set_option maxRecDepth 20000 in
theorem zz_cd_257 : zz_cd 257 := fun _ => zz_tb7 (List.mem_of_getElem? (i := 59) rfl)
set_option maxRecDepth 20000 in
theorem zz_cd_258 : zz_cd 258 := fun _ => zz_tb7 (List.mem_of_getElem? (i := 63) rfl)
set_option maxRecDepth 20000 in
theorem zz_cd_259 : zz_cd 259 := fun _ => zz_tb7 (List.mem_of_getElem? (i := 67) rfl)
set_option maxRecDepth 20000 in
theorem zz_cd_260 : zz_cd 260 := fun _ => zz_tb7 (List.mem_of_getElem? (i := 71) rfl)
set_option maxRecDepth 20000 in
theorem zz_cd_261 : zz_cd 261 := fun _ => zz_tb7 (List.mem_of_getElem? (i := 75) rfl)
set_option maxRecDepth 20000 in
theorem zz_cd_262 : zz_cd 262 := fun _ => zz_tb7 (List.mem_of_getElem? (i := 78) rfl)
set_option maxRecDepth 20000 in
theorem zz_cd_263 : zz_cd 263 := fun _ => zz_tb7 (List.mem_of_getElem? (i := 84) rfl)
set_option maxRecDepth 20000 in
theorem zz_cd_264 : zz_cd 264 := fun _ => zz_tb7 (List.mem_of_getElem? (i := 92) rfl)
set_option maxRecDepth 20000 in
theorem zz_cd_265 : zz_cd 265 := fun _ => zz_tb7 (List.mem_of_getElem? (i := 96) rfl)
set_option maxRecDepth 20000 in
theorem zz_cd_266 : zz_cd 266 := fun _ => zz_tb7 (List.mem_of_getElem? (i := 100) rfl)
set_option maxRecDepth 20000 in
theorem zz_cd_267 : zz_cd 267 := fun _ => zz_tb7 (List.mem_of_getElem? (i := 104) rfl)
set_option maxRecDepth 20000 in
theorem zz_cd_268 : zz_cd 268 := fun _ => zz_tb7 (List.mem_of_getElem? (i := 108) rfl)
set_option maxRecDepth 20000 in
theorem zz_cd_269 : zz_cd 269 := fun _ => zz_tb7 (List.mem_of_getElem? (i := 112) rfl)
theorem zz_cds30 : ∀ a, a < 30 → zz_cd a := lt_s (lt_s (lt_s (lt_s (lt_s (lt_s (lt_s (lt_s (lt_s (lt_s (lt_s (lt_s (lt_s (lt_s (lt_s (lt_s (lt_s (lt_s (lt_s (lt_s (lt_s (lt_s (lt_s (lt_s (lt_s (lt_s (lt_s (lt_s (lt_s (lt_s (lt_0) zz_cd_0) zz_cd_1) zz_cd_2) zz_cd_3) zz_cd_4) zz_cd_5) zz_cd_6) zz_cd_7) zz_cd_8) zz_cd_9) zz_cd_10) zz_cd_11) zz_cd_12) zz_cd_13) zz_cd_14) zz_cd_15) zz_cd_16) zz_cd_17) zz_cd_18) zz_cd_19) zz_cd_20) zz_cd_21) zz_cd_22) zz_cd_23) zz_cd_24) zz_cd_25) zz_cd_26) zz_cd_27) zz_cd_28) zz_cd_29
theorem zz_cds60 : ∀ a, a < 60 → zz_cd a := lt_s (lt_s (lt_s (lt_s (lt_s (lt_s (lt_s (lt_s (lt_s (lt_s (lt_s (lt_s (lt_s (lt_s (lt_s (lt_s (lt_s (lt_s (lt_s (lt_s (lt_s (lt_s (lt_s (lt_s (lt_s (lt_s (lt_s (lt_s (lt_s (lt_s (zz_cds30) zz_cd_30) zz_cd_31) zz_cd_32) zz_cd_33) zz_cd_34) zz_cd_35) zz_cd_36) zz_cd_37) zz_cd_38) zz_cd_39) zz_cd_40) zz_cd_41) zz_cd_42) zz_cd_43) zz_cd_44) zz_cd_45) zz_cd_46) zz_cd_47) zz_cd_48) zz_cd_49) zz_cd_50) zz_cd_51) zz_cd_52) zz_cd_53) zz_cd_54) zz_cd_55) zz_cd_56) zz_cd_57) zz_cd_58) zz_cd_59
theorem zz_cds90 : ∀ a, a < 90 → zz_cd a := lt_s (lt_s (lt_s (lt_s (lt_s (lt_s (lt_s (lt_s (lt_s (lt_s (lt_s (lt_s (lt_s (lt_s (lt_s (lt_s (lt_s (lt_s (lt_s (lt_s (lt_s (lt_s (lt_s (lt_s (lt_s (lt_s (lt_s (lt_s (lt_s (lt_s (zz_cds60) zz_cd_60) zz_cd_61) zz_cd_62) zz_cd_63) zz_cd_64) zz_cd_65) zz_cd_66) zz_cd_67) zz_cd_68) zz_cd_69) zz_cd_70) zz_cd_71) zz_cd_72) zz_cd_73) zz_cd_74) zz_cd_75) zz_cd_76) zz_cd_77) zz_cd_78) zz_cd_79) zz_cd_80) zz_cd_81) zz_cd_82) zz_cd_83) zz_cd_84) zz_cd_85) zz_cd_86) zz_cd_87) zz_cd_88) zz_cd_89
theorem zz_cds120 : ∀ a, a < 120 → zz_cd a := lt_s (lt_s (lt_s (lt_s (lt_s (lt_s (lt_s (lt_s (lt_s (lt_s (lt_s (lt_s (lt_s (lt_s (lt_s (lt_s (lt_s (lt_s (lt_s (lt_s (lt_s (lt_s (lt_s (lt_s (lt_s (lt_s (lt_s (lt_s (lt_s (lt_s (zz_cds90) zz_cd_90) zz_cd_91) zz_cd_92) zz_cd_93) zz_cd_94) zz_cd_95) zz_cd_96) zz_cd_97) zz_cd_98) zz_cd_99) zz_cd_100) zz_cd_101) zz_cd_102) zz_cd_103) zz_cd_104) zz_cd_105) zz_cd_106) zz_cd_107) zz_cd_108) zz_cd_109) zz_cd_110) zz_cd_111) zz_cd_112) zz_cd_113) zz_cd_114) zz_cd_115) zz_cd_116) zz_cd_117) zz_cd_118) zz_cd_119
theorem zz_cds150 : ∀ a, a < 150 → zz_cd a := lt_s (lt_s (lt_s (lt_s (lt_s (lt_s (lt_s (lt_s (lt_s (lt_s (lt_s (lt_s (lt_s (lt_s (lt_s (lt_s (lt_s (lt_s (lt_s (lt_s (lt_s (lt_s (lt_s (lt_s (lt_s (lt_s (lt_s (lt_s (lt_s (lt_s (zz_cds120) zz_cd_120) zz_cd_121) zz_cd_122) zz_cd_123) zz_cd_124) zz_cd_125) zz_cd_126) zz_cd_127) zz_cd_128) zz_cd_129) zz_cd_130) zz_cd_131) zz_cd_132) zz_cd_133) zz_cd_134) zz_cd_135) zz_cd_136) zz_cd_137) zz_cd_138) zz_cd_139) zz_cd_140) zz_cd_141) zz_cd_142) zz_cd_143) zz_cd_144) zz_cd_145) zz_cd_146) zz_cd_147) zz_cd_148) zz_cd_149
theorem zz_cds180 : ∀ a, a < 180 → zz_cd a := lt_s (lt_s (lt_s (lt_s (lt_s (lt_s (lt_s (lt_s (lt_s (lt_s (lt_s (lt_s (lt_s (lt_s (lt_s (lt_s (lt_s (lt_s (lt_s (lt_s (lt_s (lt_s (lt_s (lt_s (lt_s (lt_s (lt_s (lt_s (lt_s (lt_s (zz_cds150) zz_cd_150) zz_cd_151) zz_cd_152) zz_cd_153) zz_cd_154) zz_cd_155) zz_cd_156) zz_cd_157) zz_cd_158) zz_cd_159) zz_cd_160) zz_cd_161) zz_cd_162) zz_cd_163) zz_cd_164) zz_cd_165) zz_cd_166) zz_cd_167) zz_cd_168) zz_cd_169) zz_cd_170) zz_cd_171) zz_cd_172) zz_cd_173) zz_cd_174) zz_cd_175) zz_cd_176) zz_cd_177) zz_cd_178) zz_cd_179
theorem zz_cds210 : ∀ a, a < 210 → zz_cd a := lt_s (lt_s (lt_s (lt_s (lt_s (lt_s (lt_s (lt_s (lt_s (lt_s (lt_s (lt_s (lt_s (lt_s (lt_s (lt_s (lt_s (lt_s (lt_s (lt_s (lt_s (lt_s (lt_s (lt_s (lt_s (lt_s (lt_s (lt_s (lt_s (lt_s (zz_cds180) zz_cd_180) zz_cd_181) zz_cd_182) zz_cd_183) zz_cd_184) zz_cd_185) zz_cd_186) zz_cd_187) zz_cd_188) zz_cd_189) zz_cd_190) zz_cd_191) zz_cd_192) zz_cd_193) zz_cd_194) zz_cd_195) zz_cd_196) zz_cd_197) zz_cd_198) zz_cd_199) zz_cd_200) zz_cd_201) zz_cd_202) zz_cd_203) zz_cd_204) zz_cd_205) zz_cd_206) zz_cd_207) zz_cd_208) zz_cd_209
theorem zz_cds240 : ∀ a, a < 240 → zz_cd a := lt_s (lt_s (lt_s (lt_s (lt_s (lt_s (lt_s (lt_s (lt_s (lt_s (lt_s (lt_s (lt_s (lt_s (lt_s (lt_s (lt_s (lt_s (lt_s (lt_s (lt_s (lt_s (lt_s (lt_s (lt_s (lt_s (lt_s (lt_s (lt_s (lt_s (zz_cds210) zz_cd_210) zz_cd_211) zz_cd_212) zz_cd_213) zz_cd_214) zz_cd_215) zz_cd_216) zz_cd_217) zz_cd_218) zz_cd_219) zz_cd_220) zz_cd_221) zz_cd_222) zz_cd_223) zz_cd_224) zz_cd_225) zz_cd_226) zz_cd_227) zz_cd_228) zz_cd_229) zz_cd_230) zz_cd_231) zz_cd_232) zz_cd_233) zz_cd_234) zz_cd_235) zz_cd_236) zz_cd_237) zz_cd_238) zz_cd_239
theorem zz_cds270 : ∀ a, a < 270 → zz_cd a := lt_s (lt_s (lt_s (lt_s (lt_s (lt_s (lt_s (lt_s (lt_s (lt_s (lt_s (lt_s (lt_s (lt_s (lt_s (lt_s (lt_s (lt_s (lt_s (lt_s (lt_s (lt_s (lt_s (lt_s (lt_s (lt_s (lt_s (lt_s (lt_s (lt_s (zz_cds240) zz_cd_240) zz_cd_241) zz_cd_242) zz_cd_243) zz_cd_244) zz_cd_245) zz_cd_246) zz_cd_247) zz_cd_248) zz_cd_249) zz_cd_250) zz_cd_251) zz_cd_252) zz_cd_253) zz_cd_254) zz_cd_255) zz_cd_256) zz_cd_257) zz_cd_258) zz_cd_259) zz_cd_260) zz_cd_261) zz_cd_262) zz_cd_263) zz_cd_264) zz_cd_265) zz_cd_266) zz_cd_267) zz_cd_268) zz_cd_269
theorem zz_code {m : Nat} (h0 : 0 < m) (hm : m < zz_nm) : Jvm.Cond.code (zz_y m) (zz_bc m) (zz_nl m) (zz_re m) ∈ lw_tbl := zz_cds270 m hm h0
set_option maxRecDepth 100000 in
set_option maxHeartbeats 4000000 in
theorem zz_aL0 : ((List.range 50).all fun k => zz_okL (0 + k)) = true := by decide +kernel
set_option maxRecDepth 100000 in
set_option maxHeartbeats 4000000 in
theorem zz_aL50 : ((List.range 50).all fun k => zz_okL (50 + k)) = true := by decide +kernel
set_option maxRecDepth 100000 in
set_option maxHeartbeats 4000000 in
theorem zz_aL100 : ((List.range 50).all fun k => zz_okL (100 + k)) = true := by decide +kernel
set_option maxRecDepth 100000 in
set_option maxHeartbeats 4000000 in
theorem zz_aL150 : ((List.range 50).all fun k => zz_okL (150 + k)) = true := by decide +kernel
set_option maxRecDepth 100000 in
set_option maxHeartbeats 4000000 in
theorem zz_aL200 : ((List.range 50).all fun k => zz_okL (200 + k)) = true := by decide +kernel
set_option maxRecDepth 100000 in
set_option maxHeartbeats 4000000 in
theorem zz_aL250 : ((List.range 50).all fun k => zz_okL (250 + k)) = true := by decide +kernel
set_option maxRecDepth 100000 in
set_option maxHeartbeats 4000000 in
theorem zz_aL300 : ((List.range 50).all fun k => zz_okL (300 + k)) = true := by decide +kernel
set_option maxRecDepth 100000 in
set_option maxHeartbeats 4000000 in
theorem zz_aL350 : ((List.range 50).all fun k => zz_okL (350 + k)) = true := by decide +kernel
set_option maxRecDepth 100000 in
set_option maxHeartbeats 4000000 in
theorem zz_aL400 : ((List.range 50).all fun k => zz_okL (400 + k)) = true := by decide +kernel
set_option maxRecDepth 100000 in
set_option maxHeartbeats 4000000 in
theorem zz_aL450 : ((List.range 50).all fun k => zz_okL (450 + k)) = true := by decide +kernel
set_option maxRecDepth 100000 in
set_option maxHeartbeats 4000000 in
theorem zz_aL500 : ((List.range 50).all fun k => zz_okL (500 + k)) = true := by decide +kernel
set_option maxRecDepth 100000 in
set_option maxHeartbeats 4000000 in
theorem zz_aL550 : ((List.range 50).all fun k => zz_okL (550 + k)) = true := by decide +kernel
set_option maxRecDepth 100000 in
set_option maxHeartbeats 4000000 in
theorem zz_aL600 : ((List.range 50).all fun k => zz_okL (600 + k)) = true := by decide +kernel
set_option maxRecDepth 100000 in
set_option maxHeartbeats 4000000 in
theorem zz_aL650 : ((List.range 50).all fun k => zz_okL (650 + k)) = true := by decide +kernel
set_option maxRecDepth 100000 in
set_option maxHeartbeats 4000000 in
theorem zz_aL700 : ((List.range 50).all fun k => zz_okL (700 + k)) = true := by decide +kernel
set_option maxRecDepth 100000 in
set_option maxHeartbeats 4000000 in
theorem zz_aL750 : ((List.range 50).all fun k => zz_okL (750 + k)) = true := by decide +kernel
set_option maxRecDepth 100000 in
set_option maxHeartbeats 4000000 in
theorem zz_aL800 : ((List.range 50).all fun k => zz_okL (800 + k)) = true := by decide +kernel
set_option maxRecDepth 100000 in
set_option maxHeartbeats 4000000 in
theorem zz_aL850 : ((List.range 50).all fun k => zz_okL (850 + k)) = true := by decide +kernel
set_option maxRecDepth 100000 in
set_option maxHeartbeats 4000000 in
theorem zz_aL900 : ((List.range 50).all fun k => zz_okL (900 + k)) = true := by decide +kernel
set_option maxRecDepth 100000 in
set_option maxHeartbeats 4000000 in
theorem zz_aL950 : ((List.range 50).all fun k => zz_okL (950 + k)) = true := by decide +kernel
set_option maxRecDepth 100000 in
set_option maxHeartbeats 4000000 in
theorem zz_aL1000 : ((List.range 50).all fun k => zz_okL (1000 + k)) = true := by decide +kernel
set_option maxRecDepth 100000 in
set_option maxHeartbeats 4000000 in
theorem zz_aL1050 : ((List.range 50).all fun k => zz_okL (1050 + k)) = true := by decide +kernel
set_option maxRecDepth 100000 in
set_option maxHeartbeats 4000000 in
theorem zz_aL1100 : ((List.range 50).all fun k => zz_okL (1100 + k)) = true := by decide +kernel
set_option maxRecDepth 100000 in
set_option maxHeartbeats 4000000 in
theorem zz_aL1150 : ((List.range 50).all fun k => zz_okL (1150 + k)) = true := by decide +kernel
set_option maxRecDepth 100000 in
set_option maxHeartbeats 4000000 in
theorem zz_aL1200 : ((List.range 50).all fun k => zz_okL (1200 + k)) = true := by decide +kernel
set_option maxRecDepth 100000 in
set_option maxHeartbeats 4000000 in
theorem zz_aL1250 : ((List.range 50).all fun k => zz_okL (1250 + k)) = true := by decide +kernel
set_option maxRecDepth 100000 in
set_option maxHeartbeats 4000000 in
theorem zz_aL1300 : ((List.range 50).all fun k => zz_okL (1300 + k)) = true := by decide +kernel
set_option maxRecDepth 100000 in
set_option maxHeartbeats 4000000 in
theorem zz_aL1350 : ((List.range 50).all fun k => zz_okL (1350 + k)) = true := by decide +kernel
set_option maxRecDepth 100000 in
set_option maxHeartbeats 4000000 in
theorem zz_aL1400 : ((List.range 50).all fun k => zz_okL (1400 + k)) = true := by decide +kernel
set_option maxRecDepth 100000 in
set_option maxHeartbeats 4000000 in
theorem zz_aL1450 : ((List.range 50).all fun k => zz_okL (1450 + k)) = true := by decide +kernel
set_option maxRecDepth 100000 in
set_option maxHeartbeats 4000000 in
theorem zz_aL1500 : ((List.range 50).all fun k => zz_okL (1500 + k)) = true := by decide +kernel
set_option maxRecDepth 100000 in
set_option maxHeartbeats 4000000 in
theorem zz_aL1550 : ((List.range 50).all fun k => zz_okL (1550 + k)) = true := by decide +kernel
set_option maxRecDepth 100000 in
set_option maxHeartbeats 4000000 in
theorem zz_aL1600 : ((List.range 50).all fun k => zz_okL (1600 + k)) = true := by decide +kernel
set_option maxRecDepth 100000 in
set_option maxHeartbeats 4000000 in
theorem zz_aL1650 : ((List.range 50).all fun k => zz_okL (1650 + k)) = true := by decide +kernel
theorem zz_lt_lt {w : Nat} {q : Nat × Nat × Nat × Nat × Nat × Value} (h : zz_lt w = some q) : w < 1700 := by
  rcases Nat.lt_or_ge w 1700 with g | g
  · exact g
  · unfold zz_lt at h
    rw [show Nat.ble 1700 w = true from Nat.ble_eq_true_of_le g] at h
    cases h
theorem zz_okL_at {w : Nat} {q : Nat × Nat × Nat × Nat × Nat × Value} (h : zz_lt w = some q) : zz_okL w = true := by
  have hw := zz_lt_lt h
  by_cases h0 : w < 50
  · have g := List.all_eq_true.mp zz_aL0 (w - 0) (List.mem_range.mpr (by omega))
    rwa [show 0 + (w - 0) = w by omega] at g
  by_cases h50 : w < 100
  · have g := List.all_eq_true.mp zz_aL50 (w - 50) (List.mem_range.mpr (by omega))
    rwa [show 50 + (w - 50) = w by omega] at g
  by_cases h100 : w < 150
  · have g := List.all_eq_true.mp zz_aL100 (w - 100) (List.mem_range.mpr (by omega))
    rwa [show 100 + (w - 100) = w by omega] at g
  by_cases h150 : w < 200
  · have g := List.all_eq_true.mp zz_aL150 (w - 150) (List.mem_range.mpr (by omega))
    rwa [show 150 + (w - 150) = w by omega] at g
  by_cases h200 : w < 250
  · have g := List.all_eq_true.mp zz_aL200 (w - 200) (List.mem_range.mpr (by omega))
    rwa [show 200 + (w - 200) = w by omega] at g
  by_cases h250 : w < 300
  · have g := List.all_eq_true.mp zz_aL250 (w - 250) (List.mem_range.mpr (by omega))
    rwa [show 250 + (w - 250) = w by omega] at g
  by_cases h300 : w < 350
  · have g := List.all_eq_true.mp zz_aL300 (w - 300) (List.mem_range.mpr (by omega))
    rwa [show 300 + (w - 300) = w by omega] at g
  by_cases h350 : w < 400
  · have g := List.all_eq_true.mp zz_aL350 (w - 350) (List.mem_range.mpr (by omega))
    rwa [show 350 + (w - 350) = w by omega] at g
  by_cases h400 : w < 450
  · have g := List.all_eq_true.mp zz_aL400 (w - 400) (List.mem_range.mpr (by omega))
    rwa [show 400 + (w - 400) = w by omega] at g
  by_cases h450 : w < 500
  · have g := List.all_eq_true.mp zz_aL450 (w - 450) (List.mem_range.mpr (by omega))
    rwa [show 450 + (w - 450) = w by omega] at g
  by_cases h500 : w < 550
  · have g := List.all_eq_true.mp zz_aL500 (w - 500) (List.mem_range.mpr (by omega))
    rwa [show 500 + (w - 500) = w by omega] at g
  by_cases h550 : w < 600
  · have g := List.all_eq_true.mp zz_aL550 (w - 550) (List.mem_range.mpr (by omega))
    rwa [show 550 + (w - 550) = w by omega] at g
  by_cases h600 : w < 650
  · have g := List.all_eq_true.mp zz_aL600 (w - 600) (List.mem_range.mpr (by omega))
    rwa [show 600 + (w - 600) = w by omega] at g
  by_cases h650 : w < 700
  · have g := List.all_eq_true.mp zz_aL650 (w - 650) (List.mem_range.mpr (by omega))
    rwa [show 650 + (w - 650) = w by omega] at g
  by_cases h700 : w < 750
  · have g := List.all_eq_true.mp zz_aL700 (w - 700) (List.mem_range.mpr (by omega))
    rwa [show 700 + (w - 700) = w by omega] at g
  by_cases h750 : w < 800
  · have g := List.all_eq_true.mp zz_aL750 (w - 750) (List.mem_range.mpr (by omega))
    rwa [show 750 + (w - 750) = w by omega] at g
  by_cases h800 : w < 850
  · have g := List.all_eq_true.mp zz_aL800 (w - 800) (List.mem_range.mpr (by omega))
    rwa [show 800 + (w - 800) = w by omega] at g
  by_cases h850 : w < 900
  · have g := List.all_eq_true.mp zz_aL850 (w - 850) (List.mem_range.mpr (by omega))
    rwa [show 850 + (w - 850) = w by omega] at g
  by_cases h900 : w < 950
  · have g := List.all_eq_true.mp zz_aL900 (w - 900) (List.mem_range.mpr (by omega))
    rwa [show 900 + (w - 900) = w by omega] at g
  by_cases h950 : w < 1000
  · have g := List.all_eq_true.mp zz_aL950 (w - 950) (List.mem_range.mpr (by omega))
    rwa [show 950 + (w - 950) = w by omega] at g
  by_cases h1000 : w < 1050
  · have g := List.all_eq_true.mp zz_aL1000 (w - 1000) (List.mem_range.mpr (by omega))
    rwa [show 1000 + (w - 1000) = w by omega] at g
  by_cases h1050 : w < 1100
  · have g := List.all_eq_true.mp zz_aL1050 (w - 1050) (List.mem_range.mpr (by omega))
    rwa [show 1050 + (w - 1050) = w by omega] at g
  by_cases h1100 : w < 1150
  · have g := List.all_eq_true.mp zz_aL1100 (w - 1100) (List.mem_range.mpr (by omega))
    rwa [show 1100 + (w - 1100) = w by omega] at g
  by_cases h1150 : w < 1200
  · have g := List.all_eq_true.mp zz_aL1150 (w - 1150) (List.mem_range.mpr (by omega))
    rwa [show 1150 + (w - 1150) = w by omega] at g
  by_cases h1200 : w < 1250
  · have g := List.all_eq_true.mp zz_aL1200 (w - 1200) (List.mem_range.mpr (by omega))
    rwa [show 1200 + (w - 1200) = w by omega] at g
  by_cases h1250 : w < 1300
  · have g := List.all_eq_true.mp zz_aL1250 (w - 1250) (List.mem_range.mpr (by omega))
    rwa [show 1250 + (w - 1250) = w by omega] at g
  by_cases h1300 : w < 1350
  · have g := List.all_eq_true.mp zz_aL1300 (w - 1300) (List.mem_range.mpr (by omega))
    rwa [show 1300 + (w - 1300) = w by omega] at g
  by_cases h1350 : w < 1400
  · have g := List.all_eq_true.mp zz_aL1350 (w - 1350) (List.mem_range.mpr (by omega))
    rwa [show 1350 + (w - 1350) = w by omega] at g
  by_cases h1400 : w < 1450
  · have g := List.all_eq_true.mp zz_aL1400 (w - 1400) (List.mem_range.mpr (by omega))
    rwa [show 1400 + (w - 1400) = w by omega] at g
  by_cases h1450 : w < 1500
  · have g := List.all_eq_true.mp zz_aL1450 (w - 1450) (List.mem_range.mpr (by omega))
    rwa [show 1450 + (w - 1450) = w by omega] at g
  by_cases h1500 : w < 1550
  · have g := List.all_eq_true.mp zz_aL1500 (w - 1500) (List.mem_range.mpr (by omega))
    rwa [show 1500 + (w - 1500) = w by omega] at g
  by_cases h1550 : w < 1600
  · have g := List.all_eq_true.mp zz_aL1550 (w - 1550) (List.mem_range.mpr (by omega))
    rwa [show 1550 + (w - 1550) = w by omega] at g
  by_cases h1600 : w < 1650
  · have g := List.all_eq_true.mp zz_aL1600 (w - 1600) (List.mem_range.mpr (by omega))
    rwa [show 1600 + (w - 1600) = w by omega] at g
  have g := List.all_eq_true.mp zz_aL1650 (w - 1650) (List.mem_range.mpr (by omega))
  rwa [show 1650 + (w - 1650) = w by omega] at g
set_option maxRecDepth 100000 in
set_option maxHeartbeats 4000000 in
theorem zz_kO_ok : (zz_wd zz_kO.1 (.instanceMethod objectInit) && zz_wd zz_kO.2 (.code objectInit ⟨#[0xb1]⟩ 1 none)) = true := by decide +kernel
set_option maxRecDepth 100000 in
set_option maxHeartbeats 4000000 in
theorem zz_kP_ok : (zz_wd zz_kP.1 (.initialized "java/lang/Math") && (zz_wd zz_kP.2.1 (.static Lib.Math.min.name) && (zz_wd zz_kP.2.2.1 (.code Lib.Math.min.name Lib.Math.min.code 2 (some .int)) && (zz_wd zz_kP.2.2.2.1 (.static Lib.Math.max.name) && (zz_wd zz_kP.2.2.2.2.1 (.code Lib.Math.max.name Lib.Math.max.code 2 (some .int)) && (zz_wd zz_kP.2.2.2.2.2.1 (.static Lib.Math.abs.name) && zz_wd zz_kP.2.2.2.2.2.2 (.code Lib.Math.abs.name Lib.Math.abs.code 1 (some .int)))))))) = true := by decide +kernel
set_option maxRecDepth 100000 in
set_option maxHeartbeats 4000000 in
theorem zz_kC_ok : (zz_wd zz_kC.1 (.native arraycopyName) && (zz_wd zz_kC.2.1 (.static arraycopyName) && zz_wd zz_kC.2.2 (.initialized "java/lang/System"))) = true := by decide +kernel
