/-! THE PROGRAM'S TABLES ARE RIGHT: of each instruction its decode row and the words it links by, of each method and each kind of object the words; all by computing -/
def zz_wd (k : Nat) (w : Jvm.Cond) : Bool := decide (lw_tbl[k]? = some w) && goodWord w
def zz_wn (k : Nat) (w : Jvm.Cond) : Bool := decide (lw_tbl[k]? = some w)
def zz_np (y : MethodName) : Nat := ((parseMethodDescriptor y.desc).map fun d => d.parameters.length).getD 99
def zz_le (i : Instr) (n : Nat) : Nat := match i with
  | .bipush _ | .ldc _ | .iload _ | .lload _ | .aload _ | .istore _ | .lstore _ | .astore _ | .newarray _ => 2
  | .sipush _ | .ldc_w _ | .ldc2_w _ | .iinc .. | .goto _ | .ifCond .. | .if_icmp .. | .ifnull _ | .ifnonnull _ | .getfield _ | .putfield _ | .new _ | .anewarray _ | .invokestatic _ | .invokevirtual _ | .invokespecial _ => 3
  | .tableswitch .. | .lookupswitch .. => n
  | _ => 1
def zz_swk : List (Int × Nat) → Int → List Int → Int → Bool
  | [], _, [], _ => true
  | (k, t) :: r, lo, o :: os, q => decide (k = lo) && (decide (q + o = (t : Int)) && zz_swk r (lo + 1) os q)
  | _, _, _, _ => false
def zz_lkk : List (Int × Nat) → List (Int × Int) → Int → Bool
  | [], [], _ => true
  | (k, t) :: r, (j, o) :: os, q => decide (k = j) && (decide (q + o = (t : Int)) && zz_lkk r os q)
  | _, _, _ => false
def zz_ftk (f : FieldType) (u : Nat) : Bool := match f with
  | .int => decide (u = 0)
  | .boolean => decide (u = 1)
  | .object _ => decide (u = 2)
  | .array _ => decide (u = 2)
  | _ => false
def zz_rm (m x : Nat) : Bool := decide (zz_fr x + 1 ≤ zz_fr m) && decide (19 + zz_nl x + zz_lo x ≤ zz_lo m)
def zz_okI (m q : Nat) (e : zz_I) : Bool := match e with
  | (i, (x, y, u, w), v, sw) => decide (decode (zz_bc m) q = .ok (i, zz_le i y)) && (match i with
    | .goto o => decide ((q : Int) + o = (x : Int))
    | .ifCond _ o => decide ((q : Int) + o = (x : Int))
    | .if_icmp _ o => decide ((q : Int) + o = (x : Int))
    | .ifnull o => decide ((q : Int) + o = (x : Int))
    | .ifnonnull o => decide ((q : Int) + o = (x : Int))
    | .tableswitch d lo hi offs => decide ((q : Int) + d = (x : Int)) && (decide (hi + 1 = lo + offs.toList.length) && zz_swk sw lo offs.toList q)
    | .lookupswitch d ps => decide ((q : Int) + d = (x : Int)) && ((ps.toList.zip (ps.toList.drop 1)).all (fun (a, next) => a.1 < next.1) && zz_lkk sw ps.toList q)
    | .getfield k => match zz_cl[x]? with
      | some (_, T, N) => decide (y < N) && zz_wd w (.fieldLink (zz_ow m) k (T y).1 (T y).2.1 (T y).2.2.1)
      | none => false
    | .putfield k => match zz_cl[x]? with
      | some (_, T, N) => decide (y < N) && (zz_wd w (.fieldLink (zz_ow m) k (T y).1 (T y).2.1 (T y).2.2.1) && (zz_ftk (zz_ft (T y).2.2.1) u && (!(T y).2.2.2 || (decide ((zz_y m).name = "<init>") && decide ((T y).1 = zz_ow m)))))
      | none => false
    | .new k => match zz_cl[x]? with
      | some (C, _, _) => zz_wd w (.classLink (zz_ow m) k C)
      | none => false
    | .newarray t => decide (x < 3) && (decide (newarray.typeOf t = zz_ty x) && zz_wd w (.arrayClass (zz_ty x)))
    | .anewarray k => decide (x = 3 ∨ x = 4) && (match zz_ty x with
      | .object C => zz_wd w (.classLink (zz_ow m) k C)
      | _ => false)
    | .ldc k => match v with
      | .int a => zz_wd w (.constant (zz_ow m) k a)
      | _ => false
    | .ldc_w k => match v with
      | .int a => zz_wd w (.constant (zz_ow m) k a)
      | _ => false
    | .ldc2_w k => match v with
      | .long a => zz_wd w (.constantLong (zz_ow m) k a)
      | _ => false
    | .invokestatic k => if x = 100001 then zz_wd w (.methodLink (zz_ow m) k arraycopyName) && (decide (1 ≤ zz_fr m) && decide (26 ≤ zz_lo m))
        else decide (0 < x ∧ x < zz_nm) && (zz_wd w (.methodLink (zz_ow m) k (zz_y x)) && (decide ((zz_mw x).1 = 0) && (zz_rm m x && decide (zz_np (zz_y x) = y))))
    | .invokevirtual k => decide (0 < x ∧ x < zz_nm) && (zz_wd w (.methodLink (zz_ow m) k (zz_y x)) && (decide ((zz_mw x).1 = 1) && (zz_rm m x && (decide (zz_np (zz_y x) = y) && (match zz_cl[u]? with
      | some (C, _, _) => decide (C = (zz_y x).cls)
      | none => false)))))
    | .invokespecial k => if x = 100000 then zz_wd w (.methodLink (zz_ow m) k objectInit) && (decide (1 ≤ zz_fr m) && decide (20 ≤ zz_lo m))
        else decide (0 < x ∧ x < zz_nm) && ((zz_wd w (.methodLink (zz_ow m) k (zz_y x)) || zz_wn w (.methodLinkNest (zz_ow m) k (zz_y x) "UnequalHours")) && (decide ((zz_mw x).1 = 2) && (zz_rm m x && decide (zz_np (zz_y x) = y))))
    | _ => true)
def zz_okR (m : Nat) : Bool := match zz_rt m, zz_re m with
  | 0, none => true
  | 1, some .int => true
  | 2, some .boolean => true
  | 3, some (.object _) => true
  | _, _ => false
def zz_okM (m : Nat) : Bool := match zz_mw m with
  | (t, kc, ks, kl, ki) => zz_wd kc (.code (zz_y m) (zz_bc m) (zz_nl m) (zz_re m)) && (zz_wd ki (.initialized (zz_y m).cls) && (plainName (zz_y m).cls && (decide ((zz_y m).cls = zz_ow m) && (zz_okR m &&
      (decide ((zz_y m).cls ≠ "java/lang/invoke/MethodHandle" ∧ (zz_y m).cls ≠ "java/lang/invoke/VarHandle") && (match t with
      | 0 => zz_wd ks (.static (zz_y m))
      | 1 => zz_wd ks (.instanceMethod (zz_y m)) && zz_wd kl (.selects (zz_y m).cls (zz_y m) (zz_y m))
      | _ => zz_wd ks (.instanceMethod (zz_y m)) && (decide ((zz_y m).name = "<init>") && decide (zz_rt m = 0))))))))
def zz_okF (T : u_T) (us : List Nat) (j : Nat) : Bool := decide (parseFieldDescriptor (T j).2.2.1 = some (zz_ft (T j).2.2.1)) && (match us[j]? with
  | some u => zz_ftk (zz_ft (T j).2.2.1) u
  | none => false)
def zz_okC (c : Nat) : Bool := match zz_cl[c]? with
  | some (C, T, N) => (u_ws C T N).all (fun w => decide (w ∈ lw_tbl) && goodWord w) && (zz_wd (zz_cw c).1 (.instantiable C N) && (zz_wd (zz_cw c).2 (.initialized C) && (decide ((zz_us c).length = N) &&
      ((List.range N).all (fun j => zz_okF T (zz_us c) j) && (List.range N).all (fun a => (List.range N).all (fun b => decide (a = b) || decide ((T a).2.1 ≠ (T b).2.1)))))))
  | none => false
def zz_okT (m : Nat) : Bool := (List.range (zz_ln m)).all fun q => match zz_T m q with
  | none => true
  | some e => zz_okI m q e
set_option maxRecDepth 100000 in
set_option maxHeartbeats 4000000 in
theorem zz_allC : (List.range 11).all zz_okC = true := by decide +kernel
set_option maxRecDepth 100000 in
set_option maxHeartbeats 4000000 in
theorem zz_allM : (List.range zz_nm).all (fun m => decide (m = 0) || zz_okM m) = true := by decide +kernel
set_option maxRecDepth 100000 in
set_option maxHeartbeats 4000000 in
theorem zz_kO_ok : (zz_wd zz_kO.1 (.instanceMethod objectInit) && zz_wd zz_kO.2 (.code objectInit ⟨#[0xb1]⟩ 1 none)) = true := by decide +kernel
set_option maxRecDepth 100000 in
set_option maxHeartbeats 4000000 in
theorem zz_kC_ok : (zz_wd zz_kC.1 (.native arraycopyName) && (zz_wd zz_kC.2.1 (.static arraycopyName) && zz_wd zz_kC.2.2 (.initialized "java/lang/System"))) = true := by decide +kernel
set_option maxRecDepth 100000 in
set_option maxHeartbeats 4000000 in
theorem zz_kT0 : ∀ m, 0 ≤ m → m < 2 → zz_okT m = true := by
  have h : ((List.range 2).all fun k => zz_okT (0 + k)) = true := by decide +kernel
  intro m h1 h2
  have h3 := List.all_eq_true.mp h (m - 0) (List.mem_range.mpr (by omega))
  rwa [show 0 + (m - 0) = m by omega] at h3
set_option maxRecDepth 100000 in
set_option maxHeartbeats 4000000 in
theorem zz_kT1 : ∀ m, 2 ≤ m → m < 56 → zz_okT m = true := by
  have h : ((List.range 54).all fun k => zz_okT (2 + k)) = true := by decide +kernel
  intro m h1 h2
  have h3 := List.all_eq_true.mp h (m - 2) (List.mem_range.mpr (by omega))
  rwa [show 2 + (m - 2) = m by omega] at h3
set_option maxRecDepth 100000 in
set_option maxHeartbeats 4000000 in
theorem zz_kT2 : ∀ m, 56 ≤ m → m < 97 → zz_okT m = true := by
  have h : ((List.range 41).all fun k => zz_okT (56 + k)) = true := by decide +kernel
  intro m h1 h2
  have h3 := List.all_eq_true.mp h (m - 56) (List.mem_range.mpr (by omega))
  rwa [show 56 + (m - 56) = m by omega] at h3
set_option maxRecDepth 100000 in
set_option maxHeartbeats 4000000 in
theorem zz_kT3 : ∀ m, 97 ≤ m → m < 123 → zz_okT m = true := by
  have h : ((List.range 26).all fun k => zz_okT (97 + k)) = true := by decide +kernel
  intro m h1 h2
  have h3 := List.all_eq_true.mp h (m - 97) (List.mem_range.mpr (by omega))
  rwa [show 97 + (m - 97) = m by omega] at h3
set_option maxRecDepth 100000 in
set_option maxHeartbeats 4000000 in
theorem zz_kT4 : ∀ m, 123 ≤ m → m < 150 → zz_okT m = true := by
  have h : ((List.range 27).all fun k => zz_okT (123 + k)) = true := by decide +kernel
  intro m h1 h2
  have h3 := List.all_eq_true.mp h (m - 123) (List.mem_range.mpr (by omega))
  rwa [show 123 + (m - 123) = m by omega] at h3
set_option maxRecDepth 100000 in
set_option maxHeartbeats 4000000 in
theorem zz_kT5 : ∀ m, 150 ≤ m → m < 194 → zz_okT m = true := by
  have h : ((List.range 44).all fun k => zz_okT (150 + k)) = true := by decide +kernel
  intro m h1 h2
  have h3 := List.all_eq_true.mp h (m - 150) (List.mem_range.mpr (by omega))
  rwa [show 150 + (m - 150) = m by omega] at h3
set_option maxRecDepth 100000 in
set_option maxHeartbeats 4000000 in
theorem zz_kT6 : ∀ m, 194 ≤ m → m < 227 → zz_okT m = true := by
  have h : ((List.range 33).all fun k => zz_okT (194 + k)) = true := by decide +kernel
  intro m h1 h2
  have h3 := List.all_eq_true.mp h (m - 194) (List.mem_range.mpr (by omega))
  rwa [show 194 + (m - 194) = m by omega] at h3
set_option maxRecDepth 100000 in
set_option maxHeartbeats 4000000 in
theorem zz_kT7 : ∀ m, 227 ≤ m → m < 251 → zz_okT m = true := by
  have h : ((List.range 24).all fun k => zz_okT (227 + k)) = true := by decide +kernel
  intro m h1 h2
  have h3 := List.all_eq_true.mp h (m - 227) (List.mem_range.mpr (by omega))
  rwa [show 227 + (m - 227) = m by omega] at h3
set_option maxRecDepth 100000 in
set_option maxHeartbeats 4000000 in
theorem zz_kT8 : ∀ m, 251 ≤ m → m < 273 → zz_okT m = true := by
  have h : ((List.range 22).all fun k => zz_okT (251 + k)) = true := by decide +kernel
  intro m h1 h2
  have h3 := List.all_eq_true.mp h (m - 251) (List.mem_range.mpr (by omega))
  rwa [show 251 + (m - 251) = m by omega] at h3
theorem zz_kT (m : Nat) (hm : m < zz_nm) : zz_okT m = true := by
  have hm : m < 273 := hm
  by_cases h0 : m < 2
  · exact zz_kT0 m (by omega) h0
  by_cases h1 : m < 56
  · exact zz_kT1 m (by omega) h1
  by_cases h2 : m < 97
  · exact zz_kT2 m (by omega) h2
  by_cases h3 : m < 123
  · exact zz_kT3 m (by omega) h3
  by_cases h4 : m < 150
  · exact zz_kT4 m (by omega) h4
  by_cases h5 : m < 194
  · exact zz_kT5 m (by omega) h5
  by_cases h6 : m < 227
  · exact zz_kT6 m (by omega) h6
  by_cases h7 : m < 251
  · exact zz_kT7 m (by omega) h7
  exact zz_kT8 m (by omega) hm
