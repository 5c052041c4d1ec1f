/-! ===== an interpreter over pictures: cells are numbered from 0 (own ones: Value.ref), those that were there before are Value.retAddr; its soundness stands in a later part ===== -/
/-- what an array holds: ints (also chars, booleans, bytes), longs, references -/
abbrev jx_K : Type := (Nat → Int32) ⊕ ((Nat → Int64) ⊕ (Nat → Option Nat))
/-- a cell: an array (its sort, its length, what it holds), or an object (its class, its fields) -/
abbrev jx_C : Type := (Nat × Nat × jx_K) ⊕ (Nat × List Value)
abbrev jx_H : Type := List jx_C
/-- an entry of a constant pool: tag, two numbers, a constant -/
abbrev jx_P : Type := Nat × Nat × Nat × Int
/-- a method: pool, class, locals, arguments, return sort, constructor, code -/
abbrev jx_M : Type := List (Nat × jx_P) × Nat × Nat × Nat × Nat × Bool × List (Nat × Instr)
/-- what is foreign: cells, statics -/
abbrev jx_F : Type := jx_H × List Value
abbrev jx_S : Type := Nat × List Value × List Value × jx_H
abbrev jx_R : Type := (Nat × List Value × List Value) ⊕ (jx_S ⊕ (Option Value × jx_H))
def jx_as {α : Type} : List (Nat × α) → Nat → Option α
  | [], _ => none
  | (q, a) :: r, k => bif Nat.beq q k then some a else jx_as r k
def jx_junk : Value := .float 0
def jx_to (pc : Nat) (L st : List Value) (h : jx_H) : Option jx_R := some (.inr (.inl (pc, L, st, h)))
def jx_i1 (st : List Value) (k : Int32 → List Value → Option jx_R) : Option jx_R := match st with
  | .int x :: r => k x r
  | _ => none
def jx_i2 (st : List Value) (k : Int32 → Int32 → List Value → Option jx_R) : Option jx_R := match st with
  | .int y :: .int x :: r => k x y r
  | _ => none
def jx_l1 (st : List Value) (k : Int64 → List Value → Option jx_R) : Option jx_R := match st with
  | .long x :: r => k x r
  | _ => none
def jx_l2 (st : List Value) (k : Int64 → Int64 → List Value → Option jx_R) : Option jx_R := match st with
  | .long y :: .long x :: r => k x y r
  | _ => none
def jx_li (st : List Value) (k : Int64 → Int32 → List Value → Option jx_R) : Option jx_R := match st with
  | .int y :: .long x :: r => k x y r
  | _ => none
/-- a reference on top: own, foreign -/
def jx_a1 (st : List Value) (k : Nat → List Value → Option jx_R) (f : Nat → List Value → Option jx_R) : Option jx_R := match st with
  | .ref a :: r => k a r
  | .retAddr a :: r => f a r
  | _ => none
def jx_ia (st : List Value) (k : Int32 → Nat → List Value → Option jx_R) (f : Int32 → Nat → List Value → Option jx_R) : Option jx_R := match st with
  | .int i :: .ref a :: r => k i a r
  | .int i :: .retAddr a :: r => f i a r
  | _ => none
def jx_via (st : List Value) (k : Value → Int32 → Nat → List Value → Option jx_R) : Option jx_R := match st with
  | v :: .int i :: .ref a :: r => k v i a r
  | _ => none
def jx_va (st : List Value) (k : Value → Nat → List Value → Option jx_R) : Option jx_R := match st with
  | v :: .ref a :: r => k v a r
  | _ => none
def jx_isL (v : Option Value) : Bool := match v with
  | some (.long _) => true
  | some (.double _) => true
  | _ => false
def jx_st1 (L : List Value) (i : Nat) (v : Value) (k : List Value → Option jx_R) : Option jx_R :=
  if i < L.length then (bif Nat.ble 1 i && jx_isL L[i - 1]? then none else k (L.set i v)) else none
def jx_st2 (L : List Value) (i : Nat) (v : Value) (k : List Value → Option jx_R) : Option jx_R :=
  if i + 1 < L.length then (bif Nat.ble 1 i && jx_isL L[i - 1]? then none else k ((L.set i v).set (i + 1) jx_junk)) else none
def jx_ldi (L : List Value) (i : Nat) (k : Int32 → Option jx_R) : Option jx_R := match L[i]? with
  | some (.int x) => k x
  | _ => none
def jx_ldl (L : List Value) (i : Nat) (k : Int64 → Option jx_R) : Option jx_R := match L[i]? with
  | some (.long x) => k x
  | _ => none
def jx_lda (L : List Value) (i : Nat) (k : Value → Option jx_R) : Option jx_R := match L[i]? with
  | some (.ref x) => k (.ref x)
  | some (.retAddr x) => k (.retAddr x)
  | _ => none
/-- where a jump goes -/
def jx_jp (pc : Nat) (off : Int) : Nat := ((pc : Int) + off).toNat
def jx_cmp (c : Jvm.ClassFile.Cond) (x y : Int32) : Prop := match c with
  | .eq => x = y
  | .ne => ¬ x = y
  | .lt => x < y
  | .ge => y ≤ x
  | .gt => y < x
  | .le => x ≤ y
def jx_cmpB (c : Jvm.ClassFile.Cond) (x y : Int32) : Bool := match c with
  | .eq => decide (x = y)
  | .ne => decide (¬ x = y)
  | .lt => decide (x < y)
  | .ge => decide (y ≤ x)
  | .gt => decide (y < x)
  | .le => decide (x ≤ y)
/-- a jump that may be taken -/
def jx_br (c : Bool) (pc : Nat) (off : Int) (L st : List Value) (h : jx_H) : Option jx_R :=
  bif decide (0 ≤ (pc : Int) + off) then (bif c then jx_to (jx_jp pc off) L st h else jx_to (pc + 3) L st h) else none
/-- the arguments off the stack, the first one first -/
def jx_take : Nat → List Value → List Value → Option (List Value × List Value)
  | 0, st, acc => some (acc, st)
  | n + 1, v :: st, acc => jx_take n st (v :: acc)
  | _ + 1, [], _ => none
def jx_catS (st : List Value) : Nat := (st.map fun v => v.category).sum
def jx_sw (dflt lo hi : Int) (offs : Array Int) (x : Int) : Option Int := if x < lo ∨ hi < x then some dflt else offs.toList[(x - lo).toNat]?
/-- an element's place is looked at -/
def jx_at {α : Type} (i : Int32) (n : Nat) (k : Option α) : Option α := if i < 0 ∨ n ≤ i.toNatClampNeg then none else k
def jx_zero (t : Nat) : jx_K := bif Nat.beq t 3 then .inr (.inl fun _ => 0) else .inl fun _ => 0
def jx_atype (t : ArrayType) : Option Nat := match t with
  | .int => some 0
  | .char => some 1
  | .boolean => some 2
  | .long => some 3
  | _ => none
/-- the sorts of rows of objects that there are (10, and the class) -/
def jx_rs (t : Nat) : Bool := Nat.beq t 10 || Nat.beq t 12
/-- an int-like element of an own cell -/
def jx_gi {α : Type} (h : jx_H) (t : Nat) (a : Nat) (i : Int32) (k : Int32 → Option α) : Option α := match h[a]? with
  | some (.inl (t', n, .inl f)) => bif Nat.beq t' t then jx_at i n (k (f i.toNatClampNeg)) else none
  | _ => none
def jx_gl {α : Type} (h : jx_H) (a : Nat) (i : Int32) (k : Int64 → Option α) : Option α := match h[a]? with
  | some (.inl (t', n, .inr (.inl f))) => bif Nat.beq t' 3 then jx_at i n (k (f i.toNatClampNeg)) else none
  | _ => none
def jx_ga {α : Type} (h : jx_H) (a : Nat) (i : Int32) (k : Nat → Option α) : Option α := match h[a]? with
  | some (.inl (t', n, .inr (.inr f))) => bif jx_rs t' then jx_at i n (match f i.toNatClampNeg with
    | some y => k y
    | none => none) else none
  | _ => none
def jx_pi {α : Type} (h : jx_H) (t : Nat) (a : Nat) (i x : Int32) (k : jx_H → Option α) : Option α := match h[a]? with
  | some (.inl (t', n, .inl f)) => bif Nat.beq t' t then jx_at i n (k (h.set a (.inl (t', n, .inl (upd f i.toNatClampNeg x))))) else none
  | _ => none
def jx_pl {α : Type} (h : jx_H) (a : Nat) (i : Int32) (x : Int64) (k : jx_H → Option α) : Option α := match h[a]? with
  | some (.inl (t', n, .inr (.inl f))) => bif Nat.beq t' 3 then jx_at i n (k (h.set a (.inl (t', n, .inr (.inl (vp_updL f i.toNatClampNeg x)))))) else none
  | _ => none
def jx_pa {α : Type} (h : jx_H) (a : Nat) (i : Int32) (x : Nat) (k : jx_H → Option α) : Option α := match h[a]?, h[x]? with
  | some (.inl (t', n, .inr (.inr f))), some (.inr (ci, _)) => bif jx_rs t' && Nat.beq t' (10 + ci) then jx_at i n (k (h.set a (.inl (t', n, .inr (.inr (va_up f i.toNatClampNeg (some x))))))) else none
  | _, _ => none
def jx_gf {α : Type} (h : jx_H) (a ci j : Nat) (k : Value → Option α) : Option α := match h[a]? with
  | some (.inr (c, fs)) => bif Nat.beq c ci then (match fs[j]? with
    | some v => k v
    | none => none) else none
  | _ => none
/-- may a value stand in a field of this sort (0 int, 2 boolean, 9 a reference) -/
def jx_fit (t : Nat) (v : Value) : Bool := match v with
  | .int x => Nat.beq t 0 || (Nat.beq t 2 && (x == 0 || x == 1))
  | .ref _ => Nat.beq t 9
  | _ => false
def jx_pf {α : Type} (h : jx_H) (a ci j : Nat) (v : Value) (k : jx_H → Option α) : Option α := match h[a]? with
  | some (.inr (c, fs)) => bif Nat.beq c ci && Nat.blt j fs.length then k (h.set a (.inr (c, fs.set j v))) else none
  | _ => none
def jx_len {α : Type} (h : jx_H) (a : Nat) (k : Int32 → Option α) : Option α := match h[a]? with
  | some (.inl (t, n, _)) => bif Nat.ble t 3 || jx_rs t then k (Int32.ofNat n) else none
  | _ => none
def jx_lenF {α : Type} (h : jx_H) (a : Nat) (k : Int32 → Option α) : Option α := match h[a]? with
  | some (.inl (_, n, _)) => k (Int32.ofNat n)
  | _ => none
/-- System.arraycopy, of ints, of longs -/
def jx_cp {α : Type} (h : jx_H) (st : List Value) (k : List Value → jx_H → Option α) : Option α := match st with
  | .int n :: .int dp :: .ref b :: .int sp :: .ref a :: r => bif Nat.ble (jx_catS r) 8 then (match h[a]?, h[b]? with
    | some (.inl (t, n0, .inl f)), some (.inl (t', n1, .inl g)) => if (t = 0 ∧ t' = 0) ∧ ¬ sp < 0 ∧ ¬ dp < 0 ∧ ¬ n < 0 ∧ sp.toNatClampNeg + n.toNatClampNeg ≤ n0 ∧ dp.toNatClampNeg + n.toNatClampNeg ≤ n1
        then k r (h.set b (.inl (t', n1, .inl (va_cpy f g sp.toNatClampNeg dp.toNatClampNeg n.toNatClampNeg)))) else none
    | some (.inl (t, n0, .inr (.inl f))), some (.inl (t', n1, .inr (.inl g))) => if (t = 3 ∧ t' = 3) ∧ ¬ sp < 0 ∧ ¬ dp < 0 ∧ ¬ n < 0 ∧ sp.toNatClampNeg + n.toNatClampNeg ≤ n0 ∧ dp.toNatClampNeg + n.toNatClampNeg ≤ n1
        then k r (h.set b (.inl (t', n1, .inr (.inl (va_cpy f g sp.toNatClampNeg dp.toNatClampNeg n.toNatClampNeg))))) else none
    | _, _ => none) else none
  | _ => none
/-- the receiver is an object of the class -/
def jx_rcv (F : jx_F) (h : jx_H) (cl : Nat) (as : List Value) : Bool := match as with
  | .ref a :: _ => (match h[a]? with
    | some (.inr (c, _)) => Nat.beq c cl
    | _ => false)
  | .retAddr a :: _ => (match F.1[a]? with
    | some (.inr (c, _)) => Nat.beq c cl
    | _ => false)
  | _ => false
def jx_ret1 (rt : Nat) (v : Int32) : Bool := bif Nat.beq rt 1 then true else bif Nat.beq rt 4 then decide (v &&& 1 = v) else bif Nat.beq rt 5 then decide (vp_nar .char v = v) else bif Nat.beq rt 6 then decide (vp_nar .byte v = v) else false
