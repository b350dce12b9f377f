/-! AN ANALYSER OF METHODS: all instructions but calls and returns -/
def aa_cat : List aa_A → Nat
  | [] => 0
  | a :: r => (if Nat.beq a.1 2 = true then 2 else 1) + aa_cat r
theorem aa_cat1 {ν : List Int} {a : aa_A} {v : Value} (h0 : a.1 ≠ 0) (h1 : aa_mv ν a (some v)) : v.category = if Nat.beq a.1 2 = true then 2 else 1 := by
  obtain ⟨k, f⟩ := a
  match k, h0, h1 with
  | 0, h0, _ => exact absurd rfl h0
  | 1, _, h1 => obtain ⟨w, e, -⟩ := h1; cases e; rfl
  | 2, _, h1 => obtain ⟨w, e, -⟩ := h1; cases e; rfl
  | 3, _, h1 => obtain ⟨w, e, -⟩ := h1; cases e; rfl
  | 4, _, h1 =>
    have h1 : some v = some Value.null := h1
    cases h1
    rfl
  | k + 5, _, h1 => exact h1.elim
theorem aa_cat_ok {ν : List Int} : ∀ {l : List aa_A} {q : List Value}, aa_ms ν l q → (q.map fun v => v.category).sum = aa_cat l
  | [], [], _ => rfl
  | [], _ :: _, h => h.elim
  | _ :: _, [], h => h.elim
  | a :: l, v :: q, h => by
    rw [List.map_cons, List.sum_cons, aa_cat, aa_cat_ok h.2, aa_cat1 h.1.1 h.1.2]
def aa_kv (pc : Nat) (s : aa_S) (v : Value) : aa_Q := match v with
  | .int a => some [(pc, aa_pi s s.2.2.2 (aa_c a.toInt))]
  | _ => none
def aa_kvl (pc : Nat) (s : aa_S) (v : Value) : aa_Q := match v with
  | .long a => some [(pc, aa_wst s ((2, aa_c a.toInt) :: s.2.2.2))]
  | _ => none
def aa_kld (t pc : Nat) (s : aa_S) (k : Nat) : aa_Q := match s.2.2.1[k]? with
  | some (t', f) => if Nat.beq t' t = true then some [(pc, aa_wst s ((t, f) :: s.2.2.2))] else none
  | none => none
def aa_kla (pc : Nat) (s : aa_S) (k : Nat) : aa_Q := match s.2.2.1[k]? with
  | some (3, f) => some [(pc, aa_wst s ((3, f) :: s.2.2.2))]
  | some (4, f) => some [(pc, aa_wst s ((4, f) :: s.2.2.2))]
  | _ => none
def aa_kis (pc : Nat) (s : aa_S) (k : Nat) : aa_Q := match s.2.2.2 with
  | (1, f) :: r => if k < s.2.2.1.length then some [(pc, aa_wlv s ((aa_pre s.2.2.1 k).set k (1, f)) r)] else none
  | _ => none
def aa_kls (pc : Nat) (s : aa_S) (k : Nat) : aa_Q := match s.2.2.2 with
  | (2, f) :: r => if k + 1 < s.2.2.1.length then some [(pc, aa_wlv s (((aa_pre s.2.2.1 k).set k (2, f)).set (k + 1) (0, aa_c 0)) r)] else none
  | _ => none
def aa_kas (pc : Nat) (s : aa_S) (k : Nat) : aa_Q := match s.2.2.2 with
  | (3, f) :: r => if k < s.2.2.1.length then some [(pc, aa_wlv s ((aa_pre s.2.2.1 k).set k (3, f)) r)] else none
  | (4, f) :: r => if k < s.2.2.1.length then some [(pc, aa_wlv s ((aa_pre s.2.2.1 k).set k (4, f)) r)] else none
  | _ => none
def aa_kii (pc : Nat) (s : aa_S) (k : Nat) (n : Int) : aa_Q := match s.2.2.1[k]? with
  | some (1, f) => aa_kis pc (aa_ar s s.2.2.2 (aa_plus f n)) k
  | _ => none
def aa_ksw (s : aa_S) (sw : List (Int × Nat)) (x : Nat) : aa_Q := aa_w1 s fun a r => match a.2 with
  | [] => some [(zz_sw sw x a.1, aa_wst s r)]
  | _ => some (sw.flatMap (fun q => (aa_as2 (aa_wst s r) (aa_plus a (-q.1))).toList.map fun t => (q.2, t)) ++ [(x, aa_wst s r)])
def aa_pr (s : aa_S) (st : List aa_A) (gr : Nat) : aa_S := ((s.1.1 ++ [(0, 553, gr)], s.1.2), (s.2.1, (s.2.2.1, (3, aa_id s.1.1.length) :: st)))
def aa_kgf (pc x y : Nat) (s : aa_S) : aa_Q := aa_wr s fun f r => if Nat.beq (aa_gp s.1.1 f) 0 = true then none else match aa_gi (aa_gp s.1.1 f) with
  | (0, c, _, ts) => if Nat.beq c x = true then (match ts[y]? with
    | some 0 => (match aa_ld (aa_wst s r) f (aa_c y) with
      | some (q, s') => some [(pc, aa_pi s' r q)]
      | none => none)
    | some (t + 1) => (match f.2 with
      | [] => (match zz_ly f.1.toNat with
        | .inr (.inr (_, fs)) => (match fs[y]? with
          | some (some (some q)) => some [(pc, aa_wst s ((3, aa_c q) :: r))]
          | _ => none)
        | _ => none)
      | _ => some [(pc, aa_pr s r (t + 1))])
    | none => none) else none
  | _ => none
def aa_kpf (ws fr : aa_W) (hk : aa_Hk) (pc x y u : Nat) (s : aa_S) : aa_Q := match s.2.2.2 with
  | (1, a) :: (3, f) :: r => if Nat.beq (aa_gp s.1.1 f) 0 = true then none else (match aa_gi (aa_gp s.1.1 f) with
    | (0, c, _, ts) => if Nat.beq c x = true ∧ ts[y]? = some 0 ∧ (u = 0 ∨ (u = 1 ∧ 0 ≤ aa_lo s.1.1 s.1.2 a ∧ aa_hi s.1.1 s.1.2 a ≤ 1)) then (match aa_sto ws fr hk (aa_wst s r) f (aa_c y) a with
      | some s' => some [(pc, s')]
      | none => none) else none
    | _ => none)
  | _ => none
def aa_kilc (b : Bool) (t : Nat) : Bool := match b with
  | true => Nat.beq t 1 || Nat.beq t 2
  | false => Nat.beq t 0
def aa_kil (pc : Nat) (byt : Bool) (s : aa_S) : aa_Q := match s.2.2.2 with
  | (1, i) :: (3, f) :: r => if Nat.beq (aa_gp s.1.1 f) 0 = true then none else (match aa_gi (aa_gp s.1.1 f) with
    | (1, t, n, _) => if aa_kilc byt t = true ∧ 0 ≤ aa_lo s.1.1 s.1.2 i ∧ aa_hi s.1.1 s.1.2 i < n then (match aa_ld (aa_wst s r) f i with
      | some (q, s') => some [(pc, aa_pi s' r q)]
      | none => none) else none
    | _ => none)
  | _ => none
def aa_kia (ws fr : aa_W) (hk : aa_Hk) (pc : Nat) (s : aa_S) : aa_Q := match s.2.2.2 with
  | (1, a) :: (1, i) :: (3, f) :: r => if Nat.beq (aa_gp s.1.1 f) 0 = true then none else (match aa_gi (aa_gp s.1.1 f) with
    | (1, t, n, _) => if t = 0 ∧ 0 ≤ aa_lo s.1.1 s.1.2 i ∧ aa_hi s.1.1 s.1.2 i < n then (match aa_sto ws fr hk (aa_wst s r) f i a with
      | some s' => some [(pc, s')]
      | none => none) else none
    | _ => none)
  | _ => none
def aa_kba (ws fr : aa_W) (hk : aa_Hk) (pc : Nat) (s : aa_S) : aa_Q := match s.2.2.2 with
  | (1, _) :: (1, i) :: (3, f) :: r => if Nat.beq (aa_gp s.1.1 f) 0 = true then none else (match aa_gi (aa_gp s.1.1 f) with
    | (1, t, n, _) => if (t = 1 ∨ t = 2) ∧ 0 ≤ aa_lo s.1.1 s.1.2 i ∧ aa_hi s.1.1 s.1.2 i < n then (match aa_sto ws fr hk ((s.1.1 ++ [if t = 1 then (0, 1, 0) else (-128, 127, 0)], s.1.2), (s.2.1, (s.2.2.1, r))) f i (aa_id s.1.1.length) with
      | some s' => some [(pc, s')]
      | none => none) else none
    | _ => none)
  | _ => none
def aa_kal (pc : Nat) (s : aa_S) : aa_Q := match s.2.2.2 with
  | (1, i) :: (3, f) :: r => if Nat.beq (aa_gp s.1.1 f) 0 = true then none else (match aa_gi (aa_gp s.1.1 f) with
    | (2, _, n, tg :: _) => if tg ≠ 0 ∧ 0 ≤ aa_lo s.1.1 s.1.2 i ∧ aa_hi s.1.1 s.1.2 i < n then some [(pc, aa_pr s r tg)] else none
    | _ => none)
  | _ => none
def aa_kle (pc : Nat) (s : aa_S) : aa_Q := aa_wr s fun f r => if Nat.beq (aa_gp s.1.1 f) 0 = true then none else match aa_gi (aa_gp s.1.1 f) with
  | (1, t, n, _) => if t < 5 then some [(pc, aa_pi s r (aa_c (Int32.ofNat n).toInt))] else none
  | _ => none
def aa_kcp (ws fr : aa_W) (_hk : aa_Hk) (pc : Nat) (s : aa_S) : aa_Q := match s.2.2.2 with
  | (1, n) :: (1, dp) :: (3, a) :: (1, sp) :: (3, b) :: r =>
    let ga := aa_gp s.1.1 a
    let gb := aa_gp s.1.1 b
    if Nat.beq ga 0 = true ∨ Nat.beq gb 0 = true then none else (match aa_gi ga, aa_gi gb with
    | (1, ta, na, _), (1, tb, nb, _) => if (ta = 0 ∧ tb = 0 ∧ aa_flat ga = true ∧ aa_flat gb = true) ∧ ((aa_iv ga 0).1 ≤ (aa_iv gb 0).1 ∧ (aa_iv gb 0).2 ≤ (aa_iv ga 0).2) ∧ (0 ≤ aa_lo s.1.1 s.1.2 n ∧ 0 ≤ aa_lo s.1.1 s.1.2 dp ∧ 0 ≤ aa_lo s.1.1 s.1.2 sp) ∧ (aa_hi s.1.1 s.1.2 (aa_add sp n 1) ≤ nb ∧ aa_hi s.1.1 s.1.2 (aa_add dp n 1) ≤ na) ∧ (aa_vdep ga 0 0 = false ∧ aa_cat r ≤ 8 ∧ aa_inw ga 0 ((na : Int) - 1) ws = true ∧ aa_inw ga 0 ((na : Int) - 1) fr = true) then
        some [(pc, (s.1, (s.2.1.filter (aa_kl s.1.1 s.1.2 [(ga, 0, (na : Int) - 1)]), (s.2.2.1, r))))] else none
    | _, _ => none)
  | _ => none
def aa_kmm (up : Bool) (pc : Nat) (s : aa_S) : aa_Q := aa_w2 s fun a b r => if aa_cat r ≤ 8 then
  (let p := if up = true then aa_pf s r (max (aa_lohi s a).1 (aa_lohi s b).1) (max (aa_lohi s a).2 (aa_lohi s b).2) else aa_pf s r (min (aa_lohi s a).1 (aa_lohi s b).1) (min (aa_lohi s a).2 (aa_lohi s b).2)
   let k : Int := if up = true then -1 else 1
   match aa_as p (aa_scale (aa_add a (aa_id s.1.1.length) (-1)) k) with
   | none => none
   | some p1 => match aa_as p1 (aa_scale (aa_add b (aa_id s.1.1.length) (-1)) k) with
     | none => none
     | some p2 => some [(pc, p2)]) else none
def aa_kab (pc : Nat) (s : aa_S) : aa_Q := aa_w1 s fun a r => if aa_cat r ≤ 8 then
  (if 0 ≤ (aa_lohi s a).1 then some [(pc, aa_pi s r a)] else if (-2147483648) < (aa_lohi s a).1 then some [(pc, aa_pf s r 0 (max (aa_lohi s a).2 (-(aa_lohi s a).1)))] else some [(pc, aa_pf s r (-2147483648) 2147483647)]) else none
def aa_one (t : Nat) : Bool := Nat.beq t 1 || (Nat.beq t 3 || Nat.beq t 4)
def aa_st (ws fr : aa_W) (hk : aa_Hk) (e : zz_I) (pc : Nat) (s : aa_S) : aa_Q := match e with
  | (i, (x, y, u, _), v, sw) => match i with
    | .iconst n => some [(pc + 1, aa_pi s s.2.2.2 (aa_c (Int32.ofInt n).toInt))]
    | .bipush n => some [(pc + 2, aa_pi s s.2.2.2 (aa_c (Int8.ofInt n).toInt32.toInt))]
    | .sipush n => some [(pc + 3, aa_pi s s.2.2.2 (aa_c (Int16.ofInt n).toInt32.toInt))]
    | .lconst n => some [(pc + 1, aa_wst s ((2, aa_c (Int64.ofNat (n : Nat)).toInt) :: s.2.2.2))]
    | .aconst_null => some [(pc + 1, aa_wst s ((4, aa_c 0) :: s.2.2.2))]
    | .ldc _ => aa_kv (pc + 2) s v
    | .ldc_w _ => aa_kv (pc + 3) s v
    | .ldc2_w _ => aa_kvl (pc + 3) s v
    | .iload k => aa_kld 1 (pc + 2) s k
    | .iload_n k => aa_kld 1 (pc + 1) s k
    | .lload k => aa_kld 2 (pc + 2) s k
    | .lload_n k => aa_kld 2 (pc + 1) s k
    | .aload k => aa_kla (pc + 2) s k
    | .aload_n k => aa_kla (pc + 1) s k
    | .istore k => aa_kis (pc + 2) s k
    | .istore_n k => aa_kis (pc + 1) s k
    | .lstore k => aa_kls (pc + 2) s k
    | .lstore_n k => aa_kls (pc + 1) s k
    | .astore k => aa_kas (pc + 2) s k
    | .astore_n k => aa_kas (pc + 1) s k
    | .iinc k n => aa_kii (pc + 3) s k (Int32.ofInt n).toInt
    | .iadd => aa_w2 s fun a b r => some [(pc + 1, aa_ar s r (aa_add a b 1))]
    | .isub => aa_w2 s fun a b r => some [(pc + 1, aa_ar s r (aa_add a b (-1)))]
    | .imul => aa_w2 s fun a b r => aa_kmul (pc + 1) s a b r
    | .iand => aa_w2 s fun a b r => aa_kand (pc + 1) s a b r
    | .ior => aa_w2 s fun _ _ r => some [(pc + 1, aa_pf s r (-2147483648) 2147483647)]
    | .ixor => aa_w2 s fun _ _ r => some [(pc + 1, aa_pf s r (-2147483648) 2147483647)]
    | .ishr => aa_w2 s fun _ _ r => some [(pc + 1, aa_pf s r (-2147483648) 2147483647)]
    | .iushr => aa_w2 s fun _ _ r => some [(pc + 1, aa_pf s r (-2147483648) 2147483647)]
    | .idiv => aa_w2 s fun a b r => aa_kdiv (pc + 1) s a b r
    | .irem => aa_w2 s fun a b r => aa_krem (pc + 1) s a b r
    | .ineg => aa_w1 s fun a r => some [(pc + 1, aa_ar s r (aa_scale a (-1)))]
    | .ladd => aa_wl2 s fun a b r => some [(pc + 1, aa_arl s r (aa_add a b 1))]
    | .lsub => aa_wl2 s fun a b r => some [(pc + 1, aa_arl s r (aa_add a b (-1)))]
    | .lmul => aa_wl2 s fun a b r => aa_klmul (pc + 1) s a b r
    | .ldiv => aa_wl2 s fun a b r => aa_kldiv (pc + 1) s a b r
    | .lcmp => aa_wl2 s fun _ _ r => some [(pc + 1, aa_pf s r (-1) 1)]
    | .i2l => aa_w1 s fun a r => some [(pc + 1, aa_wst s ((2, a) :: r))]
    | .l2i => aa_wl1 s fun a r => some [(pc + 1, aa_ar s r a)]
    | .i2b => aa_w1 s fun _ r => some [(pc + 1, aa_pf s r (-128) 127)]
    | .goto _ => some [(x, s)]
    | .ifCond c _ => aa_w1 s fun a r => some (aa_two x (pc + 3) c true (aa_wst s r) a)
    | .if_icmp c _ => aa_w2 s fun a b r => some (aa_two x (pc + 3) c false (aa_wst s r) (aa_add a b (-1)))
    | .ifnull _ => (match s.2.2.2 with
      | (3, _) :: r => some [(pc + 3, aa_wst s r)]
      | (4, _) :: r => some [(x, aa_wst s r)]
      | _ => none)
    | .ifnonnull _ => (match s.2.2.2 with
      | (3, _) :: r => some [(x, aa_wst s r)]
      | (4, _) :: r => some [(pc + 3, aa_wst s r)]
      | _ => none)
    | .tableswitch _ _ _ _ => aa_ksw s sw x
    | .lookupswitch _ _ => aa_ksw s sw x
    | .dup => (match s.2.2.2 with
      | a :: r => if aa_one a.1 = true then some [(pc + 1, aa_wst s (a :: a :: r))] else none
      | _ => none)
    | .dup2 => (match s.2.2.2 with
      | a :: b :: r => if aa_one a.1 = true ∧ aa_one b.1 = true then some [(pc + 1, aa_wst s (a :: b :: a :: b :: r))] else none
      | _ => none)
    | .pop => (match s.2.2.2 with
      | a :: r => if aa_one a.1 = true then some [(pc + 1, aa_wst s r)] else none
      | _ => none)
    | .dup_x1 => (match s.2.2.2 with
      | a :: b :: r => if aa_one a.1 = true ∧ aa_one b.1 = true then some [(pc + 1, aa_wst s (a :: b :: a :: r))] else none
      | _ => none)
    | .getfield _ => aa_kgf (pc + 3) x y s
    | .putfield _ => aa_kpf ws fr hk (pc + 3) x y u s
    | .iaload => aa_kil (pc + 1) false s
    | .baload => aa_kil (pc + 1) true s
    | .iastore => aa_kia ws fr hk (pc + 1) s
    | .bastore => aa_kba ws fr hk (pc + 1) s
    | .aaload => aa_kal (pc + 1) s
    | .arraylength => aa_kle (pc + 1) s
    | .invokestatic _ => if x < 100000 then none else if x = 100001 then aa_kcp ws fr hk (pc + 3) s else if x = 100002 then aa_kmm false (pc + 3) s else if x = 100003 then aa_kmm true (pc + 3) s else if x = 100004 then aa_kab (pc + 3) s else none
    | .invokespecial _ => if x = 100000 then aa_wr s fun _ r => (if aa_cat r ≤ 8 then some [(pc + 3, aa_wst s r)] else none) else none
    | _ => none
