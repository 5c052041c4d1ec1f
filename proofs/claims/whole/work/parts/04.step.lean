/-- an instruction's length (0: any) -/
def jx_il : Instr → Nat
  | .bipush _ | .iload _ | .lload _ | .aload _ | .istore _ | .lstore _ | .astore _ | .ldc _ | .newarray _ => 2
  | .sipush _ | .iinc .. | .if_icmp .. | .ifCond .. | .goto _ | .getfield _ | .putfield _ | .getstatic _ | .invokevirtual _ | .invokespecial _ | .invokestatic _ | .new _ | .anewarray _ | .ldc_w _ | .ldc2_w _ => 3
  | .tableswitch .. => 0
  | _ => 1
/-- the locals at a method's entry -/
def jx_lay : List Value → List Value
  | [] => []
  | v :: r => bif Nat.beq v.category 2 then v :: jx_junk :: jx_lay r else v :: jx_lay r
/-- a call: callee's number, arguments, what stays on the stack -/
def jx_call (F : jx_F) (h : jx_H) (st : List Value) (rc : Bool) (c : Nat) : Option (Nat × List Value × List Value) := match jx_sig[c]? with
  | some (cl, n, mx) => (match jx_take n st [] with
    | some (as, r) => bif (Nat.ble (jx_catS r) 8 && Nat.ble (jx_lay as).length mx) && (!rc || jx_rcv F h cl as) then some (c, as, r) else none
    | none => none)
  | none => none
def jx_v1 (st : List Value) (k : Value → List Value → Option jx_R) : Option jx_R := match st with
  | v :: r => bif Nat.beq v.category 1 then k v r else none
  | _ => none
def jx_swk (o : Option Int) (k : Int → Option jx_R) : Option jx_R := match o with
  | some off => k off
  | none => none
def jx_asI (v : Value) (k : Int32 → Option jx_R) : Option jx_R := match v with
  | .int x => k x
  | _ => none
def jx_asL (v : Value) (k : Int64 → Option jx_R) : Option jx_R := match v with
  | .long x => k x
  | _ => none
def jx_asR (v : Value) (k : Nat → Option jx_R) : Option jx_R := match v with
  | .ref x => k x
  | _ => none
def jx_aty (t : ArrayType) (k : Nat → Option jx_R) : Option jx_R := match jx_atype t with
  | some x => k x
  | none => none
def jx_pt (o : Option jx_P) (k : Nat → Nat → Nat → Int → Option jx_R) : Option jx_R := match o with
  | some (t, a, b, z) => k t a b z
  | none => none
def jx_sv (sv : List Value) (a : Nat) (k : Value → Option jx_R) : Option jx_R := match sv[a]? with
  | some v => k v
  | none => none
/-- a field's sort, whether it is final -/
def jx_fd (ci j : Nat) (k : Nat → Bool → Option jx_R) : Option jx_R := match (jx_cls.getD ci [])[j]? with
  | some (t, fin) => k t fin
  | none => none
/-- the fields of a new object -/
def jx_cf (ci : Nat) (k : List Value → Option jx_R) : Option jx_R := match jx_cls[ci]? with
  | some fs => k (fs.map fun q => bif Nat.beq q.1 9 then .null else .int 0)
  | none => none
def jx_ins (lv : Nat) (F : jx_F) (M : jx_M) (pc : Nat) (L st : List Value) (h : jx_H) (i : Instr) : Option jx_R := match i with
  | .iconst v => jx_to (pc + 1) L (.int (Int32.ofInt v) :: st) h
  | .bipush v => jx_to (pc + 2) L (.int (Int8.ofInt v).toInt32 :: st) h
  | .sipush v => jx_to (pc + 3) L (.int (Int16.ofInt v).toInt32 :: st) h
  | .lconst v => jx_to (pc + 1) L (.long (Int64.ofNat (v : Nat)) :: st) h
  | .iload_n v => jx_ldi L (v : Nat) fun x => jx_to (pc + 1) L (.int x :: st) h
  | .iload v => jx_ldi L v fun x => jx_to (pc + 2) L (.int x :: st) h
  | .lload_n v => jx_ldl L (v : Nat) fun x => jx_to (pc + 1) L (.long x :: st) h
  | .lload v => jx_ldl L v fun x => jx_to (pc + 2) L (.long x :: st) h
  | .aload_n v => jx_lda L (v : Nat) fun x => jx_to (pc + 1) L (x :: st) h
  | .aload v => jx_lda L v fun x => jx_to (pc + 2) L (x :: st) h
  | .istore_n v => jx_i1 st fun x r => jx_st1 L (v : Nat) (.int x) fun L' => jx_to (pc + 1) L' r h
  | .istore v => jx_i1 st fun x r => jx_st1 L v (.int x) fun L' => jx_to (pc + 2) L' r h
  | .lstore_n v => jx_l1 st fun x r => jx_st2 L (v : Nat) (.long x) fun L' => jx_to (pc + 1) L' r h
  | .lstore v => jx_l1 st fun x r => jx_st2 L v (.long x) fun L' => jx_to (pc + 2) L' r h
  | .astore_n v => jx_a1 st (fun x r => jx_st1 L (v : Nat) (.ref x) fun L' => jx_to (pc + 1) L' r h) (fun x r => jx_st1 L (v : Nat) (.retAddr x) fun L' => jx_to (pc + 1) L' r h)
  | .astore v => jx_a1 st (fun x r => jx_st1 L v (.ref x) fun L' => jx_to (pc + 2) L' r h) (fun x r => jx_st1 L v (.retAddr x) fun L' => jx_to (pc + 2) L' r h)
  | .iinc v n => jx_ldi L v fun x => jx_st1 L v (.int (x + Int32.ofInt n)) fun L' => jx_to (pc + 3) L' st h
  | .iadd => jx_i2 st fun x y r => jx_to (pc + 1) L (.int (x + y) :: r) h
  | .isub => jx_i2 st fun x y r => jx_to (pc + 1) L (.int (x - y) :: r) h
  | .imul => jx_i2 st fun x y r => jx_to (pc + 1) L (.int (x * y) :: r) h
  | .iand => jx_i2 st fun x y r => jx_to (pc + 1) L (.int (x &&& y) :: r) h
  | .ior => jx_i2 st fun x y r => jx_to (pc + 1) L (.int (x ||| y) :: r) h
  | .ixor => jx_i2 st fun x y r => jx_to (pc + 1) L (.int (x ^^^ y) :: r) h
  | .idiv => jx_i2 st fun x y r => if y = 0 then none else jx_to (pc + 1) L (.int (x / y) :: r) h
  | .irem => jx_i2 st fun x y r => if y = 0 then none else jx_to (pc + 1) L (.int (x - x / y * y) :: r) h
  | .ishl => jx_i2 st fun x y r => jx_to (pc + 1) L (.int (x <<< (y &&& 31)) :: r) h
  | .ishr => jx_i2 st fun x y r => jx_to (pc + 1) L (.int (x >>> (y &&& 31)) :: r) h
  | .iushr => jx_i2 st fun x y r => jx_to (pc + 1) L (.int (x.toUInt32 >>> (y.toUInt32 &&& Int32.toUInt32 31)).toInt32 :: r) h
  | .ladd => jx_l2 st fun x y r => jx_to (pc + 1) L (.long (x + y) :: r) h
  | .lcmp => jx_l2 st fun x y r => jx_to (pc + 1) L (.int (lg_cmp x y) :: r) h
  | .lshl => jx_li st fun x y r => jx_to (pc + 1) L (.long (x <<< (y.toInt64 &&& 63)) :: r) h
  | .lushr => jx_li st fun x y r => jx_to (pc + 1) L (.long (x.toUInt64 >>> (y.toInt64.toUInt64 &&& Int64.toUInt64 63)).toInt64 :: r) h
  | .i2l => jx_i1 st fun x r => jx_to (pc + 1) L (.long x.toInt64 :: r) h
  | .l2i => jx_l1 st fun x r => jx_to (pc + 1) L (.int x.toInt32 :: r) h
  | .i2c => jx_i1 st fun x r => jx_to (pc + 1) L (.int (x.toUInt32 % 65536).toInt32 :: r) h
  | .dup => jx_v1 st fun v r => jx_to (pc + 1) L (v :: v :: r) h
  | .dup2 => jx_v1 st fun v r => jx_v1 r fun w r => jx_to (pc + 1) L (v :: w :: v :: w :: r) h
  | .pop => jx_v1 st fun _ r => jx_to (pc + 1) L r h
  | .if_icmp c off => jx_i2 st fun x y r => jx_br (jx_cmpB c x y) pc off L r h
  | .ifCond c off => jx_i1 st fun x r => jx_br (jx_cmpB c x 0) pc off L r h
  | .goto off => jx_br true pc off L st h
  | .tableswitch d lo hi offs => jx_i1 st fun x r => jx_swk (jx_sw d lo hi offs x.toInt) fun off => jx_br true pc off L r h
  | .ldc k => jx_pt (jx_as M.1 k) fun t a _ z => bif Nat.beq t 7 then jx_to (pc + 2) L (.int (Int32.ofInt z) :: st) h else bif Nat.beq t 9 then jx_to (pc + 2) L (.retAddr a :: st) h else none
  | .ldc_w k => jx_pt (jx_as M.1 k) fun t _ _ z => bif Nat.beq t 7 then jx_to (pc + 3) L (.int (Int32.ofInt z) :: st) h else none
  | .ldc2_w k => jx_pt (jx_as M.1 k) fun t _ _ z => bif Nat.beq t 8 then jx_to (pc + 3) L (.long (Int64.ofInt z) :: st) h else none
  | .getstatic k => jx_pt (jx_as M.1 k) fun t a _ _ => bif Nat.beq t 10 then jx_sv F.2 a fun v => jx_to (pc + 3) L (v :: st) h else none
  | .getfield k => jx_pt (jx_as M.1 k) fun t ci j _ =>
    bif Nat.beq t 0 || Nat.beq t 1 then jx_a1 st (fun a r => jx_gf h a ci j fun v => jx_to (pc + 3) L (v :: r) h) (fun _ _ => none)
    else bif Nat.beq t 2 then jx_a1 st (fun _ _ => none) (fun a r => jx_gf F.1 a ci j fun v => jx_to (pc + 3) L (v :: r) h) else none
  | .putfield k => jx_pt (jx_as M.1 k) fun t ci j _ => jx_fd ci j fun ft fin => jx_va st fun v a r =>
    bif jx_fit ft v && ((Nat.beq t 0 && (!fin || (M.2.2.2.2.2.1 && Nat.beq M.2.1 ci))) || (Nat.beq t 1 && !fin)) then jx_pf h a ci j v fun h' => jx_to (pc + 3) L r h' else none
  | .iaload => jx_ia st (fun i a r => jx_gi h 0 a i fun x => jx_to (pc + 1) L (.int x :: r) h) (fun i a r => jx_gi F.1 0 a i fun x => jx_to (pc + 1) L (.int x :: r) h)
  | .caload => jx_ia st (fun i a r => jx_gi h 1 a i fun x => jx_to (pc + 1) L (.int x :: r) h) (fun _ _ _ => none)
  | .baload => jx_ia st (fun i a r => jx_gi h 2 a i fun x => jx_to (pc + 1) L (.int x :: r) h) (fun i a r => jx_gi F.1 4 a i fun x => jx_to (pc + 1) L (.int x :: r) h)
  | .laload => jx_ia st (fun i a r => jx_gl h a i fun x => jx_to (pc + 1) L (.long x :: r) h) (fun _ _ _ => none)
  | .aaload => jx_ia st (fun i a r => jx_ga h a i fun x => jx_to (pc + 1) L (.ref x :: r) h) (fun _ _ _ => none)
  | .iastore => jx_via st fun v i a r => jx_asI v fun x => jx_pi h 0 a i x fun h' => jx_to (pc + 1) L r h'
  | .castore => jx_via st fun v i a r => jx_asI v fun x => jx_pi h 1 a i (vp_nar .char x) fun h' => jx_to (pc + 1) L r h'
  | .bastore => jx_via st fun v i a r => jx_asI v fun x => jx_pi h 2 a i (vp_nar .boolean x) fun h' => jx_to (pc + 1) L r h'
  | .lastore => jx_via st fun v i a r => jx_asL v fun x => jx_pl h a i x fun h' => jx_to (pc + 1) L r h'
  | .aastore => jx_via st fun v i a r => jx_asR v fun x => jx_pa h a i x fun h' => jx_to (pc + 1) L r h'
  | .arraylength => jx_a1 st (fun a r => jx_len h a fun x => jx_to (pc + 1) L (.int x :: r) h) (fun a r => jx_lenF F.1 a fun x => jx_to (pc + 1) L (.int x :: r) h)
  | .newarray t => jx_i1 st fun n r => jx_aty t fun k => if n < 0 ∨ 1000 < n.toNatClampNeg then none else jx_to (pc + 2) L (.ref h.length :: r) (h ++ [.inl (k, n.toNatClampNeg, jx_zero k)])
  | .anewarray k => jx_pt (jx_as M.1 k) fun t ci _ _ => bif Nat.beq t 6 then (jx_i1 st fun n r => if (n < 0 ∨ 1000 < n.toNatClampNeg) ∨ jx_rs (10 + ci) = false then none else jx_to (pc + 3) L (.ref h.length :: r) (h ++ [.inl (10 + ci, n.toNatClampNeg, .inr (.inr fun _ => none))])) else none
  | .new k => jx_pt (jx_as M.1 k) fun t ci _ _ => bif Nat.beq t 6 then jx_cf ci fun fs => jx_to (pc + 3) L (.ref h.length :: st) (h ++ [.inr (ci, fs)]) else none
  | .invokestatic k => jx_pt (jx_as M.1 k) fun t _ _ _ => bif Nat.beq t 5 && !Nat.beq lv 0 then jx_cp h st fun r h' => jx_to (pc + 3) L r h'
    else bif Nat.beq t 14 && !Nat.beq lv 0 then jx_i2 st fun x y r => bif Nat.ble (jx_catS r) 8 then jx_to (pc + 3) L (.int (if x < y then y else x) :: r) h else none
    else bif Nat.beq t 15 && !Nat.beq lv 0 then jx_i2 st fun x y r => bif Nat.ble (jx_catS r) 8 then jx_to (pc + 3) L (.int (if y < x then y else x) :: r) h else none else none
  | .invokespecial k => jx_pt (jx_as M.1 k) fun t _ _ _ => bif Nat.beq t 4 && !Nat.beq lv 0 then jx_a1 st (fun _ r => bif Nat.ble (jx_catS r) 8 then jx_to (pc + 3) L r h else none) (fun _ _ => none) else none
  | _ => none
/-- a return -/
def jx_rets (M : jx_M) (st : List Value) (h : jx_H) (i : Instr) : Option (Option Value × jx_H) := match i with
  | .ireturn => (match st with
    | [.int v] => bif jx_ret1 M.2.2.2.2.1 v then some (some (.int v), h) else none
    | _ => none)
  | .lreturn => (match st with
    | [.long v] => bif Nat.beq M.2.2.2.2.1 2 then some (some (.long v), h) else none
    | _ => none)
  | .areturn => (match st with
    | [.ref v] => bif Nat.beq M.2.2.2.2.1 3 then some (some (.ref v), h) else none
    | [.retAddr v] => bif Nat.beq M.2.2.2.2.1 3 then some (some (.retAddr v), h) else none
    | _ => none)
  | .return_ => (match st with
    | [] => bif Nat.beq M.2.2.2.2.1 0 then some (none, h) else none
    | _ => none)
  | _ => none
/-- a call of a method -/
def jx_invs (F : jx_F) (M : jx_M) (st : List Value) (h : jx_H) (i : Instr) : Option (Nat × List Value × List Value) := match i with
  | .invokevirtual k => (match jx_as M.1 k with
    | some (t, c, _, _) => bif Nat.beq t 3 then jx_call F h st true c else none
    | none => none)
  | .invokestatic k => (match jx_as M.1 k with
    | some (t, c, _, _) => bif Nat.beq t 11 then jx_call F h st false c else none
    | none => none)
  | .invokespecial k => (match jx_as M.1 k with
    | some (t, c, _, _) => bif Nat.beq t 12 then jx_call F h st true c else none
    | none => none)
  | _ => none
def jx_prep (lv : Nat) (F : jx_F) (M : jx_M) (pc : Nat) (L st : List Value) (h : jx_H) : Option jx_R := match jx_as M.2.2.2.2.2.2 pc with
  | some i => (match jx_rets M st h i with
    | some r => some (.inr (.inr r))
    | none => (match jx_invs F M st h i with
      | some r => some (.inl r)
      | none => (match jx_ins lv F M pc L st h i with
        | some (.inr (.inl z)) => some (.inr (.inl z))
        | _ => none)))
  | none => none
/-- one step; a call by 'call' -/
def jx_step (call : Nat → List Value → jx_H → Option (Option Value × jx_H)) (lv : Nat) (F : jx_F) (M : jx_M) (pc : Nat) (L st : List Value) (h : jx_H) : Option (jx_S ⊕ (Option Value × jx_H)) := match jx_prep lv F M pc L st h with
  | some (.inl (c, as, r)) => (match call c as h with
    | some (v, h') => some (.inl (pc + 3, L, v.toList ++ r, h'))
    | none => none)
  | some (.inr x) => some x
  | none => none
def jx_go (call : Nat → List Value → jx_H → Option (Option Value × jx_H)) (lv : Nat) (F : jx_F) (M : jx_M) : Nat → Nat → List Value → List Value → jx_H → Option (Option Value × jx_H)
  | 0, _, _, _, _ => none
  | n + 1, pc, L, st, h => match jx_step call lv F M pc L st h with
    | some (.inl (pc', L', st', h')) => jx_go call lv F M n pc' L' st' h'
    | some (.inr r) => some r
    | none => none
def jx_ent (M : jx_M) (as : List Value) : List Value := jx_lay as ++ List.replicate (M.2.2.1 - (jx_lay as).length) jx_junk
/-- a run of a method with lv frames below it; N steps at most in each -/
def jx_run (F : jx_F) (N : Nat) : Nat → Nat → List Value → jx_H → Option (Option Value × jx_H)
  | 0, c, as, h => (match jx_tab c with
    | some M => jx_go (fun _ _ _ => none) 0 F M N 0 (jx_ent M as) [] h
    | none => none)
  | lv + 1, c, as, h => (match jx_tab c with
    | some M => jx_go (jx_run F N lv) (lv + 1) F M N 0 (jx_ent M as) [] h
    | none => none)
