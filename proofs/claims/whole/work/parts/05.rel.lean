/-! the small machine's program is the machine's: what is looked up of each instruction; and how a small heap, its values and locals lie in the machine's -/
def am_gw : List Cond := lw_tbl.filter goodWord
def am_nwK (w : Cond) : Bool := match w with
  | .methodLinkNest .. => true
  | .declares _ => true
  | .castable .. => true
  | _ => false
def am_nw : List Cond := lw_tbl.filter am_nwK
def am_word (w : Nat) (x : Cond) : Bool := decide (lw_tbl[w]? = some x)
theorem am_word_in {w : Nat} {x : Cond} (h : am_word w x = true) : x ∈ lw_tbl := List.mem_of_getElem? (of_decide_eq_true h)
theorem am_word_gw {w : Nat} {x : Cond} (h : am_word w x = true) (hg : goodWord x = true) : x ∈ am_gw := List.mem_filter.mpr ⟨am_word_in h, hg⟩
def am_len (op : Instr) : Nat := match op with
  | .bipush _ | .ldc _ | .iload _ | .lload _ | .aload _ | .istore _ | .lstore _ | .astore _ | .newarray _ => 2
  | .sipush _ | .ldc2_w _ | .iinc _ _ | .goto _ | .ifCond _ _ | .if_icmp _ _ | .getfield _ | .putfield _ | .getstatic _ | .new _ | .anewarray _ | .invokevirtual _ | .invokespecial _ | .invokestatic _ => 3
  | _ => 1
def am_exc (a : Nat) : String := match a with
  | 100 => "java/lang/IllegalArgumentException"
  | 101 => "java/lang/IndexOutOfBoundsException"
  | _ => "java/util/NoSuchElementException"
def am_names : List String := ["java/lang/RuntimeException", "java/lang/Exception"]
/-- the places from which the program throws: the class that holds the constant, its number, the class thrown -/
def am_thr : List (String × Nat × String) := [(RX5, 39, am_exc 100), (RX9, 125, am_exc 100), (RX9, 155, am_exc 101), (RX9, 135, am_exc 102)]
def am_chk2 (M : Nat → am_M) (k pc : Nat) (i : am_I) : Bool := match i with
  | (op, len, a, b, w, cst) => match op with
    | .ldc x => am_word w (.constant (M k).1.cls x (Int32.ofInt cst))
    | .ldc2_w x => am_word w (.constantLong (M k).1.cls x (Int64.ofInt cst))
    | .goto off => decide ((pc : Int) + off = (a : Int))
    | .ifCond _ off => decide ((pc : Int) + off = (a : Int))
    | .if_icmp _ off => decide ((pc : Int) + off = (a : Int))
    | .tableswitch dflt lo hi offs => decide (0 ≤ (pc : Int) + dflt) && offs.toList.all (fun o => decide (0 ≤ (pc : Int) + o)) && decide (hi - lo < offs.size)
    | .lookupswitch dflt ps => (ps.toList.zip (ps.toList.drop 1)).all (fun (a, next) => a.1 < next.1) && decide (0 ≤ (pc : Int) + dflt) && ps.toList.all (fun o => decide (0 ≤ (pc : Int) + o.2))
    | .getfield x => (match vwCl[a]? with
      | some q => am_word w (.fieldLink (M k).1.cls x (q.2.1 b).1 (q.2.1 b).2.1 (q.2.1 b).2.2.1) && decide (b < q.2.2)
      | none => false)
    | .putfield x => (match vwCl[a]? with
      | some q => am_word w (.fieldLink (M k).1.cls x (q.2.1 b).1 (q.2.1 b).2.1 (q.2.1 b).2.2.1) && decide (b < q.2.2) && (!(q.2.1 b).2.2.2 || (decide ((M k).1.name = "<init>") && decide ((q.2.1 b).1 = (M k).1.cls)))
      | none => false)
    | .getstatic x => am_word w (.fieldLink (M k).1.cls x RX1 "SIGNATURE" "[I")
    | .new x => if a < 11 then (match vwCl[a]? with
      | some q => am_word w (.classLink (M k).1.cls x q.1)
      | none => false) else (decide (a = 100 ∨ a = 101 ∨ a = 102) && am_word w (.classLink (M k).1.cls x (am_exc a)) && decide (((M k).1.cls, b, am_exc a) ∈ am_thr) && decide (decode (M k).2.1 (pc + 3) = .ok (.dup, 1)) && decide (decode (M k).2.1 (pc + 4) = .ok (.invokespecial b, 3)) && decide (decode (M k).2.1 (pc + 7) = .ok (.athrow, 1)) && (M k).2.2.2.2.isEmpty)
    | .newarray t => decide (a < 4) && decide (newarray.typeOf t = am_ty a)
    | .anewarray x => (decide (a = 4) && am_word w (.classLink (M k).1.cls x RX1)) || (decide (a = 5) && am_word w (.classLink (M k).1.cls x RX7))
    | .invokespecial x => if a = 99999 then am_word w (.methodLink (M k).1.cls x objectInit) else
        (decide ((M a).1.name = "<init>") && decide ((parseMethodDescriptor (M a).1.desc).map (fun d => d.parameters.length + 1) = some b) && (am_word w (.methodLink (M k).1.cls x (M a).1) || am_word w (.methodLinkNest (M k).1.cls x (M a).1 "FlightReader")))
    | .invokevirtual x => decide ((parseMethodDescriptor (M a).1.desc).map (fun d => d.parameters.length + 1) = some b) && decide (a ≠ 99999) && (am_word w (.methodLink (M k).1.cls x (M a).1) || am_word w (.methodLinkNest (M k).1.cls x (M a).1 "FlightReader"))
    | .invokestatic x => decide ((parseMethodDescriptor (M a).1.desc).map (fun d => d.parameters.length) = some b) && decide (a ≠ 99999) && am_word w (.methodLink (M k).1.cls x (M a).1)
    | _ => true
def am_sws (op : Instr) : Bool := match op with
  | .tableswitch .. => true
  | .lookupswitch .. => true
  | _ => false
def am_chk (M : Nat → am_M) (k pc : Nat) (i : am_I) : Bool := decide (decode (M k).2.1 pc = .ok (i.1, i.2.1)) && (am_sws i.1 || decide (i.2.1 = am_len i.1)) && am_chk2 M k pc i
theorem am_chk_sp {M : Nat → am_M} {k pc : Nat} {i : am_I} (h : am_chk M k pc i = true) : decode (M k).2.1 pc = .ok (i.1, i.2.1) ∧ (am_sws i.1 = true ∨ i.2.1 = am_len i.1) ∧ am_chk2 M k pc i = true := by
  simp only [am_chk, Bool.and_eq_true, Bool.or_eq_true, decide_eq_true_eq] at h
  exact ⟨h.1.1, h.1.2, h.2⟩
def am_hh (M : Nat → am_M) (k : Nat) : List (Nat × Nat × Nat × Nat) := (M k).2.2.2.2.map (fun h => (h.1, h.2.1, h.2.2.1, h.2.2.2.1))
def am_cw (M : Nat → am_M) (k : Nat) : Cond := if (M k).2.2.2.2 = [] then .code (M k).1 (M k).2.1 (M k).2.2.1 (M k).2.2.2.1 else .codeWith (M k).1 (M k).2.1 (M k).2.2.1 (M k).2.2.2.1 (am_hh M k)
/-- what the tables say of a method: kind 0 called on an object, 1 static, 2 a constructor; a handler gives back its number at once -/
def am_mok (M : Nat → am_M) (kd : Nat → Nat) (k : Nat) : Prop :=
  am_cw M k ∈ am_gw ∧ Cond.initialized (M k).1.cls ∈ am_gw ∧ (M k).2.2.1 ≤ 40 ∧ plainFor (M k).1 = true ∧ ((M k).1.cls ≠ "java/lang/invoke/MethodHandle" ∧ (M k).1.cls ≠ "java/lang/invoke/VarHandle") ∧
  (kd k = 0 → Cond.instanceMethod (M k).1 ∈ am_gw ∧ Cond.selects (M k).1.cls (M k).1 (M k).1 ∈ am_gw ∧ (M k).2.2.2.2 = []) ∧ (kd k = 1 → Cond.static (M k).1 ∈ am_gw) ∧ (kd k = 2 → Cond.instanceMethod (M k).1 ∈ am_gw ∧ (M k).1.name = "<init>" ∧ (M k).2.2.2.1 = none ∧ (M k).2.2.2.2 = [])
