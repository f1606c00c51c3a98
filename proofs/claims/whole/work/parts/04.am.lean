/-! THE SMALL MACHINE (am_): the program's own instructions over a small heap, without the machine's tables. Its cells are numbered in the order in which they are made; a throw is an outcome with the class's name.
Parts 05 and on prove: what the small machine does, the machine does. Everything about the program itself is said of the small machine. -/
abbrev am_C : Type := (Nat × vp_A) ⊕ (Nat × List Value)
/-- how many cells there are, what each holds, cells and slots made so far -/
abbrev am_S : Type := Nat × (Nat → am_C) × Nat × Nat
abbrev am_L : Type := List (Option Value)
/-- an instruction, its length, two numbers (class and field; callee and arguments; target), the place of its word, a constant -/
abbrev am_I : Type := Instr × Nat × Nat × Nat × Nat × Int
abbrev am_O : Type := Option Value ⊕ String
abbrev am_R : Type := am_O × am_S
abbrev am_F : Type := Nat × am_L × List Value × am_S
/-- a method: its name, bytes, locals, what it returns, handlers (from, to, where, the constant's number, the class, the number given back) -/
abbrev am_M : Type := MethodName × ByteArray × Nat × Option FieldType × List (Nat × Nat × Nat × Nat × String × Int32)
def am_kind (v : Value) : Nat := match v with
  | .int _ => 0
  | .long _ => 1
  | .ref _ => 2
  | _ => 3
/-- a long that ends in place j is gone -/
def am_kill (L : am_L) (j : Nat) : am_L := match j with
  | 0 => L
  | i + 1 => match L[i]? with
    | some (some w) => if w.category = 2 then L.set i none else L
    | _ => L
def am_set (L : am_L) (j : Nat) (v : Value) : am_L := if v.category = 2 then ((am_kill L j).set j (some v)).set (j + 1) none else (am_kill L j).set j (some v)
def am_load (q k j : Nat) (L : am_L) (st : List Value) (S : am_S) : Option am_F := match L[j]? with
  | some (some v) => if am_kind v = k then some (q, L, v :: st, S) else none
  | _ => none
def am_store (q k j : Nat) (L : am_L) (st : List Value) (S : am_S) : Option am_F := match st with
  | v :: r => if am_kind v = k ∧ j + k % 2 < L.length then some (q, am_set L j v, r, S) else none
  | [] => none
def am_ib (op : Instr) (x y : Int32) : Option Int32 := match op with
  | .iadd => some (x + y)
  | .isub => some (x - y)
  | .imul => some (x * y)
  | .idiv => if y = 0 then none else some (x / y)
  | .irem => if y = 0 then none else some (x - x / y * y)
  | .iand => some (x &&& y)
  | .ior => some (x ||| y)
  | .ixor => some (x ^^^ y)
  | .ishl => some (x <<< (y &&& 31))
  | .ishr => some (x >>> (y &&& 31))
  | .iushr => some (x.toUInt32 >>> (y.toUInt32 &&& Int32.toUInt32 31)).toInt32
  | _ => none
def am_lb (op : Instr) (x y : Int64) : Option Value := match op with
  | .ladd => some (.long (x + y))
  | .lsub => some (.long (x - y))
  | .lmul => some (.long (x * y))
  | .ldiv => if y = 0 then none else some (.long (x / y))
  | .lrem => if y = 0 then none else some (.long (x - x / y * y))
  | .land => some (.long (x &&& y))
  | .lor => some (.long (x ||| y))
  | .lxor => some (.long (x ^^^ y))
  | .lcmp => some (.int (lg_cmp x y))
  | _ => none
def am_un (op : Instr) (v : Value) : Option Value := match op, v with
  | .ineg, .int x => some (.int (-x))
  | .lneg, .long x => some (.long (-x))
  | .i2l, .int x => some (.long x.toInt64)
  | .l2i, .long x => some (.int x.toInt32)
  | .i2c, .int x => some (.int (x.toUInt32 % 65536).toInt32)
  | .i2b, .int x => some (.int x.toInt8.toInt32)
  | .i2s, .int x => some (.int x.toInt16.toInt32)
  | _, _ => none
def am_c1 (o : ClassFile.Cond) (x : Int32) : Bool := match o with
  | .eq => decide (x = 0)
  | .ne => decide (¬ x = 0)
  | .lt => decide (x < 0)
  | .ge => decide (0 ≤ x)
  | .gt => decide (0 < x)
  | .le => decide (x ≤ 0)
def am_c2 (o : ClassFile.Cond) (x y : Int32) : Bool := match o with
  | .eq => decide (x = y)
  | .ne => decide (¬ x = y)
  | .lt => decide (x < y)
  | .ge => decide (y ≤ x)
  | .gt => decide (y < x)
  | .le => decide (x ≤ y)
def am_get (S : am_S) (a : Nat) : Option am_C := if a < S.1 then some (S.2.1 a) else none
def am_upd (S : am_S) (a : Nat) (x : am_C) : am_S := (S.1, fun k => if k = a then x else S.2.1 k, S.2.2.1, S.2.2.2)
def am_push (S : am_S) (x : am_C) (n : Nat) : am_S := (S.1 + 1, fun k => if k = S.1 then x else S.2.1 k, S.2.2.1 + 1, S.2.2.2 + n)
def am_thrown (S : am_S) : am_S := (S.1, S.2.1, S.2.2.1 + 1, S.2.2.2 + 6)
def am_in (j : Int32) (n : Nat) : Bool := decide (¬ (j < 0 ∨ n ≤ j.toNatClampNeg))
def am_sig (j : Nat) : Int32 := match j with
  | 0 => 70
  | 1 => 76
  | 2 => 82
  | 3 => 0
  | _ => 2
/-- the two arrays that are read alone: the script, SIGNATURE -/
def am_ro (X : Nat × (Nat → Int32)) (a : Nat) : Option (Nat × (Nat → Int32)) := if a = 1000000 then some X else if a = 1000001 then some (5, am_sig) else none
def am_ty (t : Nat) : FieldType := match t with
  | 0 => .int
  | 1 => .long
  | 2 => .byte
  | 3 => .char
  | 4 => .object RX1
  | _ => .object RX7
def am_zero (t : Nat) (n : Nat) : vp_A := match t with
  | 0 => (n, .inl (fun _ => 0))
  | 1 => (n, .inr (.inl (fun _ => 0)))
  | 2 => (n, .inl (fun _ => 0))
  | 3 => (n, .inl (fun _ => 0))
  | _ => (n, .inr (.inr (.inr (.inr (fun _ => none)))))
/-- the types of a class's fields -/
def am_fty (ci k : Nat) : FieldType := match ci with
  | 0 => tyX0 k
  | 1 => tyX1 k
  | 2 => tyX2 k
  | 3 => tyX3 k
  | 4 => tyX4 k
  | 5 => tyX5 k
  | 6 => tyX6 k
  | 7 => tyX7 k
  | 8 => tyX8 k
  | 9 => tyX9 k
  | _ => tyX10 k
def am_cn (ci : Nat) : Nat := match ci with
  | 0 => 9
  | 1 => 10
  | 2 => 12
  | 3 => 7
  | 4 => 7
  | 5 => 8
  | 6 => 2
  | 7 => 7
  | 8 => 7
  | 9 => 10
  | _ => 58
def am_blank (ci : Nat) : List Value := (List.range (am_cn ci)).map (fun k => defaultValue (am_fty ci k))
def am_aload (t : Nat) (q : Nat) (L : am_L) (st : List Value) (S : am_S) (X : Nat × (Nat → Int32)) : Option am_F := match st with
  | .int j :: .ref o :: r => match am_ro X o with
    | some (n, f) => if t = 0 ∧ am_in j n = true then some (q, L, .int (f j.toNatClampNeg) :: r, S) else none
    | none => match am_get S o with
      | some (.inl (u, n, .inl f)) => if u = t ∧ t ≠ 1 ∧ t < 4 ∧ am_in j n = true then some (q, L, .int (f j.toNatClampNeg) :: r, S) else none
      | some (.inl (u, n, .inr (.inl f))) => if u = 1 ∧ t = 1 ∧ am_in j n = true then some (q, L, .long (f j.toNatClampNeg) :: r, S) else none
      | some (.inl (u, n, .inr (.inr (.inr (.inr f))))) => if (u = 4 ∨ u = 5) ∧ t = 4 ∧ am_in j n = true then some (q, L, va_rf (f j.toNatClampNeg) :: r, S) else none
      | _ => none
  | _ => none
def am_astore (t : Nat) (q : Nat) (L : am_L) (st : List Value) (S : am_S) : Option am_F := match st with
  | .int x :: .int j :: .ref o :: r => match am_get S o with
    | some (.inl (u, n, .inl f)) => if u = t ∧ t ≠ 1 ∧ t < 4 ∧ am_in j n = true then some (q, L, r, am_upd S o (.inl (u, n, .inl (upd f j.toNatClampNeg (vp_nar (am_ty t) x))))) else none
    | _ => none
  | .long x :: .int j :: .ref o :: r => match am_get S o with
    | some (.inl (u, n, .inr (.inl f))) => if u = 1 ∧ t = 1 ∧ am_in j n = true then some (q, L, r, am_upd S o (.inl (u, n, .inr (.inl (vp_updL f j.toNatClampNeg x))))) else none
    | _ => none
  | .ref v :: .int j :: .ref o :: r => match am_get S o, am_get S v with
    | some (.inl (u, n, .inr (.inr (.inr (.inr f))))), some (.inr (ci, _)) => if (u = 4 ∧ ci = 1 ∨ u = 5 ∧ ci = 7) ∧ t = 4 ∧ am_in j n = true then some (q, L, r, am_upd S o (.inl (u, n, .inr (.inr (.inr (.inr (va_up f j.toNatClampNeg (some v)))))))) else none
    | _, _ => none
  | _ => none
def am_alen (q : Nat) (L : am_L) (st : List Value) (S : am_S) (X : Nat × (Nat → Int32)) : Option am_F := match st with
  | .ref o :: r => match am_ro X o with
    | some (n, _) => some (q, L, .int (Int32.ofNat n) :: r, S)
    | none => match am_get S o with
      | some (.inl (u, n, _)) => if u < 6 then some (q, L, .int (Int32.ofNat n) :: r, S) else none
      | _ => none
  | _ => none
def am_getf (ci k : Nat) (q : Nat) (L : am_L) (st : List Value) (S : am_S) : Option am_F := match st with
  | .ref o :: r => match am_get S o with
    | some (.inr (c, fs)) => if c = ci then (match fs[k]? with
      | some v => some (q, L, v :: r, S)
      | none => none) else none
    | _ => none
  | _ => none
def am_putf (ci k : Nat) (q : Nat) (L : am_L) (st : List Value) (S : am_S) : Option am_F := match st with
  | v :: .ref o :: r => match am_get S o with
    | some (.inr (c, fs)) => if c = ci ∧ k < fs.length ∧ narrow (am_fty ci k) v = v ∧ fits (am_fty ci k) v = true then some (q, L, r, am_upd S o (.inr (c, fs.set k v))) else none
    | _ => none
  | _ => none
def am_newa (t : Nat) (q : Nat) (L : am_L) (st : List Value) (S : am_S) : Option am_F := match st with
  | .int n :: r => if ¬ n < 0 ∧ n.toNatClampNeg * 8 ≤ 536870912 ∧ S.2.2.1 = S.1 ∧ S.1 < 1000000 ∧ t < 6 then some (q, L, .ref S.1 :: r, am_push S (.inl (t, am_zero t n.toNatClampNeg)) n.toNatClampNeg) else none
  | _ => none
def am_sw (op : Instr) (pc : Nat) (x : Int32) : Nat := match op with
  | .tableswitch dflt lo hi offs => if x.toInt < lo ∨ hi < x.toInt then ((pc : Int) + dflt).toNat else ((pc : Int) + (offs[(x.toInt - lo).toNat]?).getD 0).toNat
  | .lookupswitch dflt ps => ((pc : Int) + Op.lookupswitch.offset ps.toList dflt x.toInt).toNat
  | _ => 0
def am_step (X : Nat × (Nat → Int32)) (i : am_I) (pc : Nat) (L : am_L) (st : List Value) (S : am_S) : Option am_F := match i with
  | (op, len, a, b, _, cst) => match op with
    | .iconst n => some (pc + len, L, .int (Int32.ofInt n) :: st, S)
    | .bipush n => some (pc + len, L, .int (Int8.ofInt n).toInt32 :: st, S)
    | .sipush n => some (pc + len, L, .int (Int16.ofInt n).toInt32 :: st, S)
    | .lconst n => some (pc + len, L, .long (Int64.ofNat (n : Nat)) :: st, S)
    | .ldc _ => some (pc + len, L, .int (Int32.ofInt cst) :: st, S)
    | .ldc2_w _ => some (pc + len, L, .long (Int64.ofInt cst) :: st, S)
    | .iload j => am_load (pc + len) 0 j L st S
    | .iload_n j => am_load (pc + len) 0 (j : Nat) L st S
    | .lload j => am_load (pc + len) 1 j L st S
    | .lload_n j => am_load (pc + len) 1 (j : Nat) L st S
    | .aload j => am_load (pc + len) 2 j L st S
    | .aload_n j => am_load (pc + len) 2 (j : Nat) L st S
    | .istore j => am_store (pc + len) 0 j L st S
    | .istore_n j => am_store (pc + len) 0 (j : Nat) L st S
    | .lstore j => am_store (pc + len) 1 j L st S
    | .lstore_n j => am_store (pc + len) 1 (j : Nat) L st S
    | .astore j => am_store (pc + len) 2 j L st S
    | .astore_n j => am_store (pc + len) 2 (j : Nat) L st S
    | .iinc j n => match L[j]? with
      | some (some (.int x)) => some (pc + len, am_set L j (.int (x + Int32.ofInt n)), st, S)
      | _ => none
    | .iadd | .isub | .imul | .idiv | .irem | .iand | .ior | .ixor | .ishl | .ishr | .iushr => match st with
      | .int y :: .int x :: r => (match am_ib op x y with
        | some v => some (pc + len, L, .int v :: r, S)
        | none => none)
      | _ => none
    | .ladd | .lsub | .lmul | .ldiv | .lrem | .land | .lor | .lxor | .lcmp => match st with
      | .long y :: .long x :: r => (match am_lb op x y with
        | some v => some (pc + len, L, v :: r, S)
        | none => none)
      | _ => none
    | .lshl => match st with
      | .int y :: .long x :: r => some (pc + len, L, .long (x <<< (y.toInt64 &&& 63)) :: r, S)
      | _ => none
    | .ineg | .lneg | .i2l | .l2i | .i2c | .i2b | .i2s => match st with
      | v :: r => (match am_un op v with
        | some w => some (pc + len, L, w :: r, S)
        | none => none)
      | _ => none
    | .dup => match st with
      | v :: r => if v.category = 1 then some (pc + len, L, v :: v :: r, S) else none
      | _ => none
    | .dup2 => match st with
      | v :: r => if v.category = 2 then some (pc + len, L, v :: v :: r, S) else (match r with
        | w :: r2 => if v.category = 1 ∧ w.category = 1 then some (pc + len, L, v :: w :: v :: w :: r2, S) else none
        | [] => none)
      | _ => none
    | .pop => match st with
      | v :: r => if v.category = 1 then some (pc + len, L, r, S) else none
      | _ => none
    | .pop2 => match st with
      | v :: r => if v.category = 2 then some (pc + len, L, r, S) else none
      | _ => none
    | .goto _ => some (a, L, st, S)
    | .ifCond o _ => match st with
      | .int x :: r => some (if am_c1 o x = true then a else pc + len, L, r, S)
      | _ => none
    | .if_icmp o _ => match st with
      | .int y :: .int x :: r => some (if am_c2 o x y = true then a else pc + len, L, r, S)
      | _ => none
    | .tableswitch _ _ _ _ | .lookupswitch _ _ => match st with
      | .int x :: r => some (am_sw op pc x, L, r, S)
      | _ => none
    | .iaload => am_aload 0 (pc + len) L st S X
    | .laload => am_aload 1 (pc + len) L st S X
    | .baload => am_aload 2 (pc + len) L st S X
    | .caload => am_aload 3 (pc + len) L st S X
    | .aaload => am_aload 4 (pc + len) L st S X
    | .iastore => am_astore 0 (pc + len) L st S
    | .lastore => am_astore 1 (pc + len) L st S
    | .bastore => am_astore 2 (pc + len) L st S
    | .castore => am_astore 3 (pc + len) L st S
    | .aastore => am_astore 4 (pc + len) L st S
    | .arraylength => am_alen (pc + len) L st S X
    | .getfield _ => am_getf a b (pc + len) L st S
    | .putfield _ => am_putf a b (pc + len) L st S
    | .getstatic _ => some (pc + len, L, .ref 1000001 :: st, S)
    | .new _ => if a < 11 ∧ S.2.2.1 = S.1 ∧ S.1 < 1000000 then some (pc + len, L, .ref S.1 :: st, am_push S (.inr (a, am_blank a)) (am_cn a)) else none
    | .newarray _ => am_newa a (pc + len) L st S
    | .anewarray _ => am_newa a (pc + len) L st S
    | .invokespecial _ => if a = 99999 then (match st with
      | .ref _ :: r => if (r.map fun v => v.category).sum ≤ 8 then some (pc + len, L, r, S) else none
      | _ => none) else none
    | _ => none
/-- a method's end: what it gives back, or the class that it throws -/
def am_end (ret : Option FieldType) (i : am_I) (st : List Value) (S : am_S) : Option am_R := match i with
  | (op, _, a, _, _, _) => match op with
    | .ireturn => match st, ret with
      | [.int v], some ty => if narrow ty (.int v) = .int v then some (.inl (some (.int v)), S) else none
      | _, _ => none
    | .lreturn => match st, ret with
      | [.long v], some .long => some (.inl (some (.long v)), S)
      | _, _ => none
    | .return_ => match st, ret with
      | [], none => some (.inl none, S)
      | _, _ => none
    | .new _ => if st = [] then (match a with
      | 100 => some (.inr "java/lang/IllegalArgumentException", am_thrown S)
      | 101 => some (.inr "java/lang/IndexOutOfBoundsException", am_thrown S)
      | 102 => some (.inr "java/util/NoSuchElementException", am_thrown S)
      | _ => none) else none
    | _ => none
def am_isCall (op : Instr) : Bool := match op with
  | .invokevirtual _ => true
  | .invokespecial _ => true
  | .invokestatic _ => true
  | _ => false
/-- the arguments of a call, the first one first, and what stays on the stack -/
def am_args (i : am_I) (st : List Value) : Option (List Value × List Value) := match i with
  | (_, _, _, b, _, _) => if b ≤ st.length ∧ ((st.drop b).map fun v => v.category).sum ≤ 8 then some ((st.take b).reverse, st.drop b) else none
def am_find (hs : List (Nat × Nat × Nat × Nat × String × Int32)) (pc : Nat) (E : String) : Option Int32 := match hs with
  | [] => none
  | h :: r => if h.1 ≤ pc ∧ pc < h.2.1 ∧ h.2.2.2.2.1 = E then some h.2.2.2.2.2 else am_find r pc E
/-- the receiver of a call is an object of the class that has the method -/
def am_recv (M : Nat → am_M) (i : am_I) (as : List Value) (S : am_S) : Bool := match i.1, as with
  | .invokevirtual _, .ref o :: _ => (match am_get S o with
    | some (.inr (ci, _)) => decide ((vwCl[ci]?).map (fun q => q.1) = some (M i.2.2.1).1.cls)
    | _ => false)
  | .invokespecial _, .ref _ :: _ => true
  | .invokestatic _, _ => true
  | _, _ => false
def am_flat (as : List Value) : am_L := as.flatMap (fun v => if v.category = 2 then [some v, none] else [some v])
def am_entry (n : Nat) (as : List Value) : am_L := am_flat as ++ List.replicate (n - (am_flat as).length) none
def am_go (P : Nat → Nat → Option am_I) (M : Nat → am_M) (X : Nat × (Nat → Int32)) (ev : Nat → List Value → am_S → am_R → Prop) (k : Nat) : Nat → Nat → am_L → List Value → am_S → am_R → Prop
  | 0, _, _, _, _, _ => False
  | n + 1, pc, L, st, S, r => ∃ i, P k pc = some i ∧
    ((∃ q : am_F, am_step X i pc L st S = some q ∧ am_go P M X ev k n q.1 q.2.1 q.2.2.1 q.2.2.2 r) ∨
     am_end (M k).2.2.2.1 i st S = some r ∨
     (am_isCall i.1 = true ∧ i.2.2.1 ≠ 99999 ∧ ∃ (as rest : List Value) (r1 : am_R), am_args i st = some (as, rest) ∧ am_recv M i as S = true ∧ ev i.2.2.1 as S r1 ∧
       match r1.1 with
       | .inl v => am_go P M X ev k n (pc + 3) L (v.toList ++ rest) r1.2 r
       | .inr E => ((M k).2.2.2.2 = [] ∧ r = (.inr E, r1.2)) ∨ (∃ x, am_find (M k).2.2.2.2 pc E = some x ∧ r = (.inl (some (.int x)), r1.2))))
def am_ev (P : Nat → Nat → Option am_I) (M : Nat → am_M) (X : Nat × (Nat → Int32)) : Nat → Nat → List Value → am_S → am_R → Prop
  | 0, _, _, _, _ => False
  | d + 1, k, as, S, r => (am_flat as).length ≤ (M k).2.2.1 ∧ ∃ n, am_go P M X (am_ev P M X d) k n 0 (am_entry (M k).2.2.1 as) [] S r
