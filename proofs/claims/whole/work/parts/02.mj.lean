/-! THE SMALL MACHINE: a pure interpreter over blocks of instructions (the JVM's own, in a normal form), whose cells are named by their numbers in a list; what it answers the real machine answers (parts behind this one). Values: .ref k is cell number k of the list; .retAddr k is a thing outside (0 the script, 1 the static row of inverses, 2, 3 the two texts). -/
abbrev mj_L : Type := List (Option Value)
abbrev mj_C : Type := (Nat × vp_A) ⊕ (Nat × List Value)
abbrev mj_H : Type := List mj_C
abbrev mj_R : Type := Option (Option Value × mj_H)
abbrev mj_I : Type := Instr × List Nat × Value
abbrev mj_E : Type := Nat → Option (Nat × Nat × (Nat → Int32))
def mj_lget : mj_L → Nat → Option Value
  | [], _ => none
  | a :: _, 0 => a
  | _ :: l, n + 1 => mj_lget l n
def mj_lset : mj_L → Nat → Option Value → mj_L
  | [], _, _ => []
  | _ :: l, 0, v => v :: l
  | a :: l, n + 1, v => a :: mj_lset l n v
/-- whether a long stands right ahead of place k -/
def mj_pl (l : mj_L) (k : Nat) : Bool := match k with
  | 0 => false
  | k + 1 => match mj_lget l k with
    | some (.long _) => true
    | some (.double _) => true
    | _ => false
def mj_kill : List Nat → mj_L → mj_L
  | [], l => l
  | k :: ks, l => mj_kill ks (mj_lset l k none)
/-- the top n of the stack, the deepest first, and the rest -/
def mj_pop : Nat → List Value → List Value → Option (List Value × List Value)
  | 0, st, acc => some (acc, st)
  | _ + 1, [], _ => none
  | n + 1, v :: st, acc => mj_pop n st (v :: acc)
def mj_cmp (c : Jvm.ClassFile.Cond) (x y : Int32) : Bool := match c with
  | .eq => decide (x = y)
  | .ne => !decide (x = y)
  | .lt => decide (x < y)
  | .ge => decide (y ≤ x)
  | .gt => decide (y < x)
  | .le => decide (x ≤ y)
def mj_i2 (f : Int32 → Int32 → Option Value) (st : List Value) : Option (List Value) := match st with
  | .int y :: .int x :: r => match f x y with
    | some v => some (v :: r)
    | none => none
  | _ => none
def mj_l2 (f : Int64 → Int64 → Option Value) (st : List Value) : Option (List Value) := match st with
  | .long y :: .long x :: r => match f x y with
    | some v => some (v :: r)
    | none => none
  | _ => none
def mj_li (f : Int64 → Int32 → Value) (st : List Value) : Option (List Value) := match st with
  | .int y :: .long x :: r => some (f x y :: r)
  | _ => none
def mj_i1 (f : Int32 → Value) (st : List Value) : Option (List Value) := match st with
  | .int x :: r => some (f x :: r)
  | _ => none
def mj_l1 (f : Int64 → Value) (st : List Value) : Option (List Value) := match st with
  | .long x :: r => some (f x :: r)
  | _ => none
def mj_c1 (v : Value) : Bool := match v with
  | .int _ => true
  | .null => true
  | .ref _ => true
  | .retAddr _ => true
  | _ => false
/-- what works on the stack alone, a byte each -/
def mj_pu (i : Instr) (st : List Value) : Option (List Value) := match i with
  | .iadd => mj_i2 (fun x y => some (.int (x + y))) st
  | .isub => mj_i2 (fun x y => some (.int (x - y))) st
  | .imul => mj_i2 (fun x y => some (.int (x * y))) st
  | .iand => mj_i2 (fun x y => some (.int (x &&& y))) st
  | .ior => mj_i2 (fun x y => some (.int (x ||| y))) st
  | .idiv => mj_i2 (fun x y => if y = 0 then none else some (.int (x / y))) st
  | .irem => mj_i2 (fun x y => if y = 0 then none else some (.int (x - x / y * y))) st
  | .ishl => mj_i2 (fun x y => some (.int (x <<< (y &&& 31)))) st
  | .ishr => mj_i2 (fun x y => some (.int (x >>> (y &&& 31)))) st
  | .iushr => mj_i2 (fun x y => some (.int (x.toUInt32 >>> (y.toUInt32 &&& 31)).toInt32)) st
  | .ineg => mj_i1 (fun x => .int (-x)) st
  | .ladd => mj_l2 (fun x y => some (.long (x + y))) st
  | .lsub => mj_l2 (fun x y => some (.long (x - y))) st
  | .lmul => mj_l2 (fun x y => some (.long (x * y))) st
  | .lor => mj_l2 (fun x y => some (.long (x ||| y))) st
  | .ldiv => mj_l2 (fun x y => if y = 0 then none else some (.long (x / y))) st
  | .lrem => mj_l2 (fun x y => if y = 0 then none else some (.long (x - x / y * y))) st
  | .lcmp => mj_l2 (fun x y => some (.int (lg_cmp x y))) st
  | .lneg => mj_l1 (fun x => .long (-x)) st
  | .lshl => mj_li (fun x y => .long (x <<< (y.toInt64 &&& 63))) st
  | .lshr => mj_li (fun x y => .long (x >>> (y.toInt64 &&& 63))) st
  | .i2l => mj_i1 (fun x => .long x.toInt64) st
  | .l2i => mj_l1 (fun x => .int x.toInt32) st
  | .i2c => mj_i1 (fun x => .int (x.toUInt32 % 65536).toInt32) st
  | .i2b => mj_i1 (fun x => .int x.toInt8.toInt32) st
  | .dup => match st with
    | a :: r => if mj_c1 a = true then some (a :: a :: r) else none
    | _ => none
  | .pop => match st with
    | a :: r => if mj_c1 a = true then some r else none
    | _ => none
  | .dup2 => match st with
    | .long a :: r => some (.long a :: .long a :: r)
    | a :: b :: r => if mj_c1 a = true ∧ mj_c1 b = true then some (a :: b :: a :: b :: r) else none
    | _ => none
  | _ => none
/-- an index that is in a row of n -/
def mj_in (i : Int32) (n : Nat) : Bool := decide (0 ≤ i.toInt ∧ i.toInt < n)
/-- reading a row of ints (t: 0 int, 1 char, 2 boolean) -/
def mj_ald (E : mj_E) (t : Nat) (st : List Value) (h : mj_H) : Option (List Value) := match st with
  | .int i :: .ref k :: r => match h[k]? with
    | some (.inl (t', n, .inl f)) => if t' = t ∧ mj_in i n = true then some (.int (f i.toNatClampNeg) :: r) else none
    | _ => none
  | .int i :: .retAddr e :: r => match E e with
    | some (te, n, f) => if te = t ∧ mj_in i n = true then some (.int (f i.toNatClampNeg) :: r) else none
    | none => none
  | _ => none
def mj_lald (st : List Value) (h : mj_H) : Option (List Value) := match st with
  | .int i :: .ref k :: r => match h[k]? with
    | some (.inl (t', n, .inr (.inl f))) => if t' = 3 ∧ mj_in i n = true then some (.long (f i.toNatClampNeg) :: r) else none
    | _ => none
  | _ => none
def mj_rf (r : Option Nat) : Value := match r with
  | none => .null
  | some k => .ref k
def mj_aald (st : List Value) (h : mj_H) : Option (List Value) := match st with
  | .int i :: .ref k :: r => match h[k]? with
    | some (.inl (t', n, .inr (.inr (.inr (.inr f))))) => if t' = 4 ∧ mj_in i n = true then some (mj_rf (f i.toNatClampNeg) :: r) else none
    | _ => none
  | _ => none
def mj_ty (t : Nat) : FieldType := match t with
  | 0 => .int
  | 1 => .char
  | 2 => .boolean
  | 3 => .long
  | _ => .object "FarSide$Text"
def mj_ast (t : Nat) (st : List Value) (h : mj_H) : Option (List Value × mj_H) := match st with
  | .int x :: .int i :: .ref k :: r => match h[k]? with
    | some (.inl (t', n, .inl f)) => if t' = t ∧ mj_in i n = true then some (r, h.set k (.inl (t', n, .inl (upd f i.toNatClampNeg (vp_nar (mj_ty t) x))))) else none
    | _ => none
  | _ => none
def mj_last (st : List Value) (h : mj_H) : Option (List Value × mj_H) := match st with
  | .long x :: .int i :: .ref k :: r => match h[k]? with
    | some (.inl (t', n, .inr (.inl f))) => if t' = 3 ∧ mj_in i n = true then some (r, h.set k (.inl (t', n, .inr (.inl (vp_updL f i.toNatClampNeg x))))) else none
    | _ => none
  | _ => none
def mj_aast (ci : Nat) (st : List Value) (h : mj_H) : Option (List Value × mj_H) := match st with
  | .null :: .int i :: .ref k :: r => match h[k]? with
    | some (.inl (t', n, .inr (.inr (.inr (.inr f))))) => if t' = 4 ∧ mj_in i n = true then some (r, h.set k (.inl (t', n, .inr (.inr (.inr (.inr (va_up f i.toNatClampNeg none))))))) else none
    | _ => none
  | .ref q :: .int i :: .ref k :: r => match h[k]?, h[q]? with
    | some (.inl (t', n, .inr (.inr (.inr (.inr f))))), some (.inr (c, _)) => if t' = 4 ∧ c = ci ∧ mj_in i n = true then some (r, h.set k (.inl (t', n, .inr (.inr (.inr (.inr (va_up f i.toNatClampNeg (some q)))))))) else none
    | _, _ => none
  | _ => none
def mj_alen (E : mj_E) (st : List Value) (h : mj_H) : Option (List Value) := match st with
  | .ref k :: r => match h[k]? with
    | some (.inl (_, a)) => some (.int (Int32.ofNat a.1) :: r)
    | _ => none
  | .retAddr e :: r => match E e with
    | some (_, n, _) => some (.int (Int32.ofNat n) :: r)
    | none => none
  | _ => none
def mj_newa (t : Nat) (st : List Value) (h : mj_H) : Option (List Value × mj_H) := match st with
  | .int n :: r => if 0 ≤ n.toInt ∧ n.toInt ≤ 100000 then
      some (.ref h.length :: r, h ++ [.inl (t, n.toNatClampNeg, if t = 3 then .inr (.inl (fun _ => 0)) else if t = 4 then .inr (.inr (.inr (.inr (fun _ => none)))) else .inl (fun _ => 0))])
    else none
  | _ => none
/-- the fields of the two texts (2, 3): the row of bytes (4, 5), the coder -/
def mj_xf (k f : Nat) : Option Value := match k, f with
  | 2, 0 => some (.retAddr 4)
  | 3, 0 => some (.retAddr 5)
  | 2, 1 => some (.int 0)
  | 3, 1 => some (.int 0)
  | _, _ => none
def mj_get (c f : Nat) (st : List Value) (h : mj_H) : Option (List Value) := match st with
  | .retAddr k :: r => if c = 16 then match mj_xf k f with
      | some v => some (v :: r)
      | none => none
    else none
  | .ref k :: r => match h[k]? with
    | some (.inr (c', fs)) => if c' = c then match fs[f]? with
        | some v => some (v :: r)
        | none => none
      else none
    | _ => none
  | _ => none
/-- what may be laid into a field (kind: 0 int, 1 boolean, 2 long, 3 a reference) -/
def mj_fit (kd : Nat) (v : Value) : Bool := match v with
  | .int x => kd == 0 || (kd == 1 && (x == 0 || x == 1))
  | .long _ => kd == 2
  | .null => kd == 3
  | .ref _ => kd == 3
  | _ => false
def mj_put (c f kd : Nat) (st : List Value) (h : mj_H) : Option (List Value × mj_H) := match st with
  | v :: .ref k :: r => match h[k]? with
    | some (.inr (c', fs)) => if c' = c ∧ f < fs.length ∧ mj_fit kd v = true then some (r, h.set k (.inr (c', fs.set f v))) else none
    | _ => none
  | _ => none
/-- where a table switch goes to: which of the rest's places -/
def mj_tsw (lo hi : Int) (x : Int32) : Nat := if x.toInt < lo ∨ hi < x.toInt then 0 else (x.toInt - lo).toNat + 1
def mj_lsw (x : Int) : List (Int × Int) → Nat → Nat
  | [], _ => 0
  | q :: ps, n => if q.1 = x then n else mj_lsw x ps (n + 1)
/-- what may be answered (0: any int, 1: a truth value, 2: a char, 3: the byte 0) -/
def mj_rok (k : Nat) (a : Int32) : Bool := match k with
  | 0 => true
  | 1 => a == 0 || a == 1
  | 2 => decide (0 ≤ a.toInt ∧ a.toInt ≤ 65535)
  | _ => a == 0
/-- what a method answers at its end (x is [1] where the answer is a truth value) -/
def mj_ret (i : Instr) (x : List Nat) (st : List Value) : Option (Option Value) := match i with
  | .ireturn => match st with
    | [.int a] => if mj_rok (x.getD 0 0) a = true then some (some (.int a)) else none
    | _ => none
  | .lreturn => match st with
    | [.long a] => some (some (.long a))
    | _ => none
  | .areturn => match st with
    | [.ref a] => some (some (.ref a))
    | [.null] => some (some .null)
    | _ => none
  | .return_ => match st with
    | [] => some none
    | _ => none
  | _ => none
/-- the receiver is of that class -/
def mj_rcv (c : Nat) (as : List Value) (h : mj_H) : Bool := match as with
  | .ref k :: _ => match h[k]? with
    | some (.inr (c', _)) => c' == c
    | _ => false
  | .retAddr k :: _ => c == 16 && (k == 2 || k == 3)
  | _ => false
def mj_lw (v : Value) : Nat := match v with
  | .long _ => 2
  | .double _ => 2
  | _ => 1
def mj_lsum : List Value → Nat
  | [] => 0
  | v :: r => mj_lw v + mj_lsum r
/-- not more than eight words are left below -/
def mj_le4 (r : List Value) : Bool := decide (mj_lsum r ≤ 8)
theorem mj_lw_rf (q : Option Nat) : mj_lw (mj_rf q) = 1 := by cases q <;> rfl
/-- one block, from a place in it on: E what lies outside, go the blocks of the same method, call other methods, bi what the library does -/
def mj_ex (E : mj_E) (df : Nat → List Value) (go : Nat → mj_L → List Value → mj_H → mj_R) (call : Nat → List Value → mj_H → mj_R) (bi : Nat → List Value → mj_H → mj_R) : List mj_I → mj_L → List Value → mj_H → mj_R
  | [], _, _, _ => none
  | (i, x, v) :: is, loc, st, h => match i with
    | .ldc _ => mj_ex E df go call bi is loc (v :: st) h
    | .iload k => match mj_lget loc k with
      | some (.int y) => mj_ex E df go call bi is loc (.int y :: st) h
      | _ => none
    | .lload k => match mj_lget loc k with
      | some (.long y) => mj_ex E df go call bi is loc (.long y :: st) h
      | _ => none
    | .aload k => match mj_lget loc k with
      | some (.ref y) => mj_ex E df go call bi is loc (.ref y :: st) h
      | some .null => mj_ex E df go call bi is loc (.null :: st) h
      | some (.retAddr y) => mj_ex E df go call bi is loc (.retAddr y :: st) h
      | _ => none
    | .istore k => match st with
      | .int y :: r => if k < loc.length ∧ mj_pl loc k = false then mj_ex E df go call bi is (mj_lset loc k (some (.int y))) r h else none
      | _ => none
    | .lstore k => match st with
      | .long y :: r => if k + 1 < loc.length ∧ mj_pl loc k = false then mj_ex E df go call bi is (mj_lset (mj_lset loc k (some (.long y))) (k + 1) none) r h else none
      | _ => none
    | .astore k => match st with
      | .ref y :: r => if k < loc.length ∧ mj_pl loc k = false then mj_ex E df go call bi is (mj_lset loc k (some (.ref y))) r h else none
      | .null :: r => if k < loc.length ∧ mj_pl loc k = false then mj_ex E df go call bi is (mj_lset loc k (some .null)) r h else none
      | _ => none
    | .iinc k _ => match mj_lget loc k, v with
      | some (.int y), .int z => if k < loc.length ∧ mj_pl loc k = false then mj_ex E df go call bi is (mj_lset loc k (some (.int (y + z)))) st h else none
      | _, _ => none
    | .nop => mj_ex E df go call bi is (mj_kill x loc) st h
    | .jsr _ => go (x.getD 0 0) loc st h
    | .goto _ => go (x.getD 0 0) loc st h
    | .ifCond c _ => match st with
      | .int a :: r => if mj_cmp c a 0 = true then go (x.getD 0 0) loc r h else go (x.getD 1 0) loc r h
      | _ => none
    | .if_icmp c _ => match st with
      | .int b :: .int a :: r => if mj_cmp c a b = true then go (x.getD 0 0) loc r h else go (x.getD 1 0) loc r h
      | _ => none
    | .ifnull _ => match st with
      | .null :: r => go (x.getD 0 0) loc r h
      | .ref _ :: r => go (x.getD 1 0) loc r h
      | _ => none
    | .ifnonnull _ => match st with
      | .null :: r => go (x.getD 1 0) loc r h
      | .ref _ :: r => go (x.getD 0 0) loc r h
      | _ => none
    | .tableswitch _ lo hi _ => match st with
      | .int a :: r => go (x.getD (mj_tsw lo hi a) 0) loc r h
      | _ => none
    | .lookupswitch _ ps => match st with
      | .int a :: r => go (x.getD (mj_lsw a.toInt ps.toList 1) 0) loc r h
      | _ => none
    | .ireturn => match mj_ret .ireturn x st with
      | some rv => some (rv, h)
      | none => none
    | .lreturn => match mj_ret .lreturn x st with
      | some rv => some (rv, h)
      | none => none
    | .areturn => match mj_ret .areturn x st with
      | some rv => some (rv, h)
      | none => none
    | .return_ => match mj_ret .return_ x st with
      | some rv => some (rv, h)
      | none => none
    | .iaload => match mj_ald E 0 st h with
      | some st' => mj_ex E df go call bi is loc st' h
      | none => none
    | .caload => match mj_ald E 1 st h with
      | some st' => mj_ex E df go call bi is loc st' h
      | none => none
    | .baload => match mj_ald E 2 st h with
      | some st' => mj_ex E df go call bi is loc st' h
      | none => none
    | .laload => match mj_lald st h with
      | some st' => mj_ex E df go call bi is loc st' h
      | none => none
    | .aaload => match mj_aald st h with
      | some st' => mj_ex E df go call bi is loc st' h
      | none => none
    | .iastore => match mj_ast 0 st h with
      | some (st', h') => mj_ex E df go call bi is loc st' h'
      | none => none
    | .castore => match mj_ast 1 st h with
      | some (st', h') => mj_ex E df go call bi is loc st' h'
      | none => none
    | .bastore => match mj_ast 2 st h with
      | some (st', h') => mj_ex E df go call bi is loc st' h'
      | none => none
    | .lastore => match mj_last st h with
      | some (st', h') => mj_ex E df go call bi is loc st' h'
      | none => none
    | .aastore => match mj_aast (x.getD 0 0) st h with
      | some (st', h') => mj_ex E df go call bi is loc st' h'
      | none => none
    | .arraylength => match mj_alen E st h with
      | some st' => mj_ex E df go call bi is loc st' h
      | none => none
    | .newarray _ => match mj_newa (x.getD 0 0) st h with
      | some (st', h') => mj_ex E df go call bi is loc st' h'
      | none => none
    | .anewarray _ => match mj_newa 4 st h with
      | some (st', h') => mj_ex E df go call bi is loc st' h'
      | none => none
    | .new _ => mj_ex E df go call bi is loc (.ref h.length :: st) (h ++ [.inr (x.getD 0 0, df (x.getD 0 0))])
    | .getfield _ => match mj_get (x.getD 0 0) (x.getD 1 0) st h with
      | some st' => mj_ex E df go call bi is loc st' h
      | none => none
    | .putfield _ => match mj_put (x.getD 0 0) (x.getD 1 0) (x.getD 2 0) st h with
      | some (st', h') => mj_ex E df go call bi is loc st' h'
      | none => none
    | .invokevirtual _ => match mj_pop (x.getD 1 0) st [] with
      | some (as, r) => if mj_rcv (x.getD 2 0) as h = true ∧ mj_le4 r = true then match call (x.getD 0 0) as h with
          | some (rv, h') => mj_ex E df go call bi is loc (rv.toList ++ r) h'
          | none => none
        else none
      | none => none
    | .invokespecial _ => match mj_pop (x.getD 1 0) st [] with
      | some (as, r) => if mj_rcv (x.getD 2 0) as h = true ∧ mj_le4 r = true then match call (x.getD 0 0) as h with
          | some (rv, h') => mj_ex E df go call bi is loc (rv.toList ++ r) h'
          | none => none
        else none
      | none => none
    | .invokestatic _ => match mj_pop (x.getD 1 0) st [] with
      | some (as, r) => if mj_le4 r = true then match call (x.getD 0 0) as h with
          | some (rv, h') => mj_ex E df go call bi is loc (rv.toList ++ r) h'
          | none => none
        else none
      | none => none
    | .invokedynamic _ => match mj_pop (x.getD 1 0) st [] with
      | some (as, r) => if mj_le4 r = true then match bi (x.getD 0 0) as h with
          | some (rv, h') => mj_ex E df go call bi is loc (rv.toList ++ r) h'
          | none => none
        else none
      | none => none
    | .checkcast _ => match st with
      | .ref k :: r => match h[k]? with
        | some (.inl (0, _)) => mj_ex E df go call bi is loc (.ref k :: r) h
        | _ => none
      | _ => none
    | .athrow => match st with
      | [.ref _] => mj_ex E df go call bi is loc [] h
      | _ => none
    | _ => match mj_pu i st with
      | some st' => mj_ex E df go call bi is loc st' h
      | none => none
