/-! working a block off: one row an instruction (all by rfl) -/
section MJS
variable {E : mj_E} {df : Nat → List Value} {go : Nat → mj_L → List Value → mj_H → mj_R} {call bi : Nat → List Value → mj_H → mj_R} {is : List mj_I} {loc : mj_L} {st : List Value} {h : mj_H} {x : List Nat} {v : Value}
theorem ms_ldc {k : Nat} : mj_ex E df go call bi ((.ldc k, x, v) :: is) loc st h = mj_ex E df go call bi is loc (v :: st) h := id rfl
theorem ms_iload {k : Nat} : mj_ex E df go call bi ((.iload k, x, v) :: is) loc st h = (match mj_lget loc k with
    | some (.int y) => mj_ex E df go call bi is loc (.int y :: st) h
    | _ => none) := id rfl
theorem ms_lload {k : Nat} : mj_ex E df go call bi ((.lload k, x, v) :: is) loc st h = (match mj_lget loc k with
    | some (.long y) => mj_ex E df go call bi is loc (.long y :: st) h
    | _ => none) := id rfl
theorem ms_aload {k : Nat} : mj_ex E df go call bi ((.aload k, x, v) :: is) loc st h = (match mj_lget loc k with
    | some (.ref y) => mj_ex E df go call bi is loc (.ref y :: st) h
    | some .null => mj_ex E df go call bi is loc (.null :: st) h
    | some (.retAddr y) => mj_ex E df go call bi is loc (.retAddr y :: st) h
    | _ => none) := id rfl
theorem ms_istore {k : Nat} : mj_ex E df go call bi ((.istore k, x, v) :: is) loc st h = (match st with
    | .int y :: r => if k < loc.length ∧ mj_pl loc k = false then mj_ex E df go call bi is (mj_lset loc k (some (.int y))) r h else none
    | _ => none) := id rfl
theorem ms_lstore {k : Nat} : mj_ex E df go call bi ((.lstore k, x, v) :: is) loc st h = (match st with
    | .long y :: r => if k + 1 < loc.length ∧ mj_pl loc k = false then mj_ex E df go call bi is (mj_lset (mj_lset loc k (some (.long y))) (k + 1) none) r h else none
    | _ => none) := id rfl
theorem ms_astore {k : Nat} : mj_ex E df go call bi ((.astore k, x, v) :: is) loc st h = (match st with
    | .ref y :: r => if k < loc.length ∧ mj_pl loc k = false then mj_ex E df go call bi is (mj_lset loc k (some (.ref y))) r h else none
    | .null :: r => if k < loc.length ∧ mj_pl loc k = false then mj_ex E df go call bi is (mj_lset loc k (some .null)) r h else none
    | _ => none) := id rfl
theorem ms_iinc {k : Nat} {n : Int} {y z : Int32} (hk : mj_lget loc k = some (.int y)) : mj_ex E df go call bi ((.iinc k n, x, .int z) :: is) loc st h = (if k < loc.length ∧ mj_pl loc k = false then mj_ex E df go call bi is (mj_lset loc k (some (.int (y + z)))) st h else none) := by
  show (match (generalizing := false) mj_lget loc k, Value.int z with
    | some (.int y), .int z => if k < loc.length ∧ mj_pl loc k = false then mj_ex E df go call bi is (mj_lset loc k (some (.int (y + z)))) st h else none
    | _, _ => none) = _
  rw [hk]
theorem ms_nop : mj_ex E df go call bi ((.nop, x, v) :: is) loc st h = mj_ex E df go call bi is (mj_kill x loc) st h := id rfl
theorem ms_jsr {k : Int} {b : Nat} : mj_ex E df go call bi ((.jsr k, [b], v) :: is) loc st h = go b loc st h := id rfl
theorem ms_goto {k : Int} {b : Nat} : mj_ex E df go call bi ((.goto k, [b], v) :: is) loc st h = go b loc st h := id rfl
theorem ms_if {c : Jvm.ClassFile.Cond} {k : Int} {bt bf : Nat} : mj_ex E df go call bi ((.ifCond c k, [bt, bf], v) :: is) loc st h = (match st with
    | .int a :: r => if mj_cmp c a 0 = true then go bt loc r h else go bf loc r h
    | _ => none) := id rfl
theorem ms_icmp {c : Jvm.ClassFile.Cond} {k : Int} {bt bf : Nat} : mj_ex E df go call bi ((.if_icmp c k, [bt, bf], v) :: is) loc st h = (match st with
    | .int b :: .int a :: r => if mj_cmp c a b = true then go bt loc r h else go bf loc r h
    | _ => none) := id rfl
theorem ms_ifnull {k : Int} {bt bf : Nat} : mj_ex E df go call bi ((.ifnull k, [bt, bf], v) :: is) loc st h = (match st with
    | .null :: r => go bt loc r h
    | .ref _ :: r => go bf loc r h
    | _ => none) := id rfl
theorem ms_ifnonnull {k : Int} {bt bf : Nat} : mj_ex E df go call bi ((.ifnonnull k, [bt, bf], v) :: is) loc st h = (match st with
    | .null :: r => go bf loc r h
    | .ref _ :: r => go bt loc r h
    | _ => none) := id rfl
theorem ms_tsw {d lo hi : Int} {of : Array Int} : mj_ex E df go call bi ((.tableswitch d lo hi of, x, v) :: is) loc st h = (match st with
    | .int a :: r => go (x.getD (mj_tsw lo hi a) 0) loc r h
    | _ => none) := id rfl
theorem ms_lsw {d : Int} {ps : Array (Int × Int)} : mj_ex E df go call bi ((.lookupswitch d ps, x, v) :: is) loc st h = (match st with
    | .int a :: r => go (x.getD (mj_lsw a.toInt ps.toList 1) 0) loc r h
    | _ => none) := id rfl
theorem ms_ireturn : mj_ex E df go call bi ((.ireturn, x, v) :: is) loc st h = (match mj_ret .ireturn x st with
    | some rv => some (rv, h)
    | none => none) := id rfl
theorem ms_lreturn : mj_ex E df go call bi ((.lreturn, x, v) :: is) loc st h = (match mj_ret .lreturn x st with
    | some rv => some (rv, h)
    | none => none) := id rfl
theorem ms_areturn : mj_ex E df go call bi ((.areturn, x, v) :: is) loc st h = (match mj_ret .areturn x st with
    | some rv => some (rv, h)
    | none => none) := id rfl
theorem ms_return_ : mj_ex E df go call bi ((.return_, x, v) :: is) loc st h = (match mj_ret .return_ x st with
    | some rv => some (rv, h)
    | none => none) := id rfl
theorem ms_iaload : mj_ex E df go call bi ((.iaload, x, v) :: is) loc st h = (match mj_ald E 0 st h with
    | some st' => mj_ex E df go call bi is loc st' h
    | none => none) := id rfl
theorem ms_caload : mj_ex E df go call bi ((.caload, x, v) :: is) loc st h = (match mj_ald E 1 st h with
    | some st' => mj_ex E df go call bi is loc st' h
    | none => none) := id rfl
theorem ms_baload : mj_ex E df go call bi ((.baload, x, v) :: is) loc st h = (match mj_ald E 2 st h with
    | some st' => mj_ex E df go call bi is loc st' h
    | none => none) := id rfl
theorem ms_laload : mj_ex E df go call bi ((.laload, x, v) :: is) loc st h = (match mj_lald st h with
    | some st' => mj_ex E df go call bi is loc st' h
    | none => none) := id rfl
theorem ms_aaload : mj_ex E df go call bi ((.aaload, x, v) :: is) loc st h = (match mj_aald st h with
    | some st' => mj_ex E df go call bi is loc st' h
    | none => none) := id rfl
theorem ms_arraylength : mj_ex E df go call bi ((.arraylength, x, v) :: is) loc st h = (match mj_alen E st h with
    | some st' => mj_ex E df go call bi is loc st' h
    | none => none) := id rfl
theorem ms_iastore : mj_ex E df go call bi ((.iastore, x, v) :: is) loc st h = (match mj_ast 0 st h with
    | some (st', h') => mj_ex E df go call bi is loc st' h'
    | none => none) := id rfl
theorem ms_castore : mj_ex E df go call bi ((.castore, x, v) :: is) loc st h = (match mj_ast 1 st h with
    | some (st', h') => mj_ex E df go call bi is loc st' h'
    | none => none) := id rfl
theorem ms_bastore : mj_ex E df go call bi ((.bastore, x, v) :: is) loc st h = (match mj_ast 2 st h with
    | some (st', h') => mj_ex E df go call bi is loc st' h'
    | none => none) := id rfl
theorem ms_lastore : mj_ex E df go call bi ((.lastore, x, v) :: is) loc st h = (match mj_last st h with
    | some (st', h') => mj_ex E df go call bi is loc st' h'
    | none => none) := id rfl
theorem ms_aastore {ci : Nat} : mj_ex E df go call bi ((.aastore, [ci], v) :: is) loc st h = (match mj_aast ci st h with
    | some (st', h') => mj_ex E df go call bi is loc st' h'
    | none => none) := id rfl
theorem ms_newarray {a : ArrayType} {t u : Nat} : mj_ex E df go call bi ((.newarray a, [t, u], v) :: is) loc st h = (match mj_newa t st h with
    | some (st', h') => mj_ex E df go call bi is loc st' h'
    | none => none) := id rfl
theorem ms_anewarray {a : Nat} : mj_ex E df go call bi ((.anewarray a, x, v) :: is) loc st h = (match mj_newa 4 st h with
    | some (st', h') => mj_ex E df go call bi is loc st' h'
    | none => none) := id rfl
theorem ms_new {a ci u : Nat} : mj_ex E df go call bi ((.new a, [ci, u], v) :: is) loc st h = mj_ex E df go call bi is loc (.ref h.length :: st) (h ++ [.inr (ci, df ci)]) := id rfl
theorem ms_getfield {a ci f u : Nat} : mj_ex E df go call bi ((.getfield a, [ci, f, u], v) :: is) loc st h = (match mj_get ci f st h with
    | some st' => mj_ex E df go call bi is loc st' h
    | none => none) := id rfl
theorem ms_putfield {a ci f kd u : Nat} : mj_ex E df go call bi ((.putfield a, [ci, f, kd, u], v) :: is) loc st h = (match mj_put ci f kd st h with
    | some (st', h') => mj_ex E df go call bi is loc st' h'
    | none => none) := id rfl
theorem ms_invokevirtual {a mm n ci u : Nat} : mj_ex E df go call bi ((.invokevirtual a, [mm, n, ci, u], v) :: is) loc st h = (match mj_pop n st [] with
    | some (as, r) => if mj_rcv ci as h = true ∧ mj_le4 r = true then match call mm as h with
        | some (rv, h') => mj_ex E df go call bi is loc (rv.toList ++ r) h'
        | none => none
      else none
    | none => none) := id rfl
theorem ms_invokespecial {a mm n ci u : Nat} : mj_ex E df go call bi ((.invokespecial a, [mm, n, ci, u], v) :: is) loc st h = (match mj_pop n st [] with
    | some (as, r) => if mj_rcv ci as h = true ∧ mj_le4 r = true then match call mm as h with
        | some (rv, h') => mj_ex E df go call bi is loc (rv.toList ++ r) h'
        | none => none
      else none
    | none => none) := id rfl
theorem ms_invokestatic {a mm n ci u : Nat} : mj_ex E df go call bi ((.invokestatic a, [mm, n, ci, u], v) :: is) loc st h = (match mj_pop n st [] with
    | some (as, r) => if mj_le4 r = true then match call mm as h with
        | some (rv, h') => mj_ex E df go call bi is loc (rv.toList ++ r) h'
        | none => none
      else none
    | none => none) := id rfl
theorem ms_builtin {a b n u : Nat} : mj_ex E df go call bi ((.invokedynamic a, [b, n, u], v) :: is) loc st h = (match mj_pop n st [] with
    | some (as, r) => if mj_le4 r = true then match bi b as h with
        | some (rv, h') => mj_ex E df go call bi is loc (rv.toList ++ r) h'
        | none => none
      else none
    | none => none) := id rfl
theorem ms_checkcast {a : Nat} : mj_ex E df go call bi ((.checkcast a, x, v) :: is) loc st h = (match st with
    | .ref k :: r => match h[k]? with
      | some (.inl (0, _)) => mj_ex E df go call bi is loc (.ref k :: r) h
      | _ => none
    | _ => none) := id rfl
theorem ms_objinit : mj_ex E df go call bi ((.athrow, x, v) :: is) loc st h = (match st with
    | [.ref _] => mj_ex E df go call bi is loc [] h
    | _ => none) := id rfl
theorem ms_iadd : mj_ex E df go call bi ((.iadd, x, v) :: is) loc st h = (match mj_pu .iadd st with
    | some st' => mj_ex E df go call bi is loc st' h
    | none => none) := id rfl
theorem ms_isub : mj_ex E df go call bi ((.isub, x, v) :: is) loc st h = (match mj_pu .isub st with
    | some st' => mj_ex E df go call bi is loc st' h
    | none => none) := id rfl
theorem ms_imul : mj_ex E df go call bi ((.imul, x, v) :: is) loc st h = (match mj_pu .imul st with
    | some st' => mj_ex E df go call bi is loc st' h
    | none => none) := id rfl
theorem ms_iand : mj_ex E df go call bi ((.iand, x, v) :: is) loc st h = (match mj_pu .iand st with
    | some st' => mj_ex E df go call bi is loc st' h
    | none => none) := id rfl
theorem ms_ior : mj_ex E df go call bi ((.ior, x, v) :: is) loc st h = (match mj_pu .ior st with
    | some st' => mj_ex E df go call bi is loc st' h
    | none => none) := id rfl
theorem ms_idiv : mj_ex E df go call bi ((.idiv, x, v) :: is) loc st h = (match mj_pu .idiv st with
    | some st' => mj_ex E df go call bi is loc st' h
    | none => none) := id rfl
theorem ms_irem : mj_ex E df go call bi ((.irem, x, v) :: is) loc st h = (match mj_pu .irem st with
    | some st' => mj_ex E df go call bi is loc st' h
    | none => none) := id rfl
theorem ms_ishl : mj_ex E df go call bi ((.ishl, x, v) :: is) loc st h = (match mj_pu .ishl st with
    | some st' => mj_ex E df go call bi is loc st' h
    | none => none) := id rfl
theorem ms_ishr : mj_ex E df go call bi ((.ishr, x, v) :: is) loc st h = (match mj_pu .ishr st with
    | some st' => mj_ex E df go call bi is loc st' h
    | none => none) := id rfl
theorem ms_iushr : mj_ex E df go call bi ((.iushr, x, v) :: is) loc st h = (match mj_pu .iushr st with
    | some st' => mj_ex E df go call bi is loc st' h
    | none => none) := id rfl
theorem ms_ineg : mj_ex E df go call bi ((.ineg, x, v) :: is) loc st h = (match mj_pu .ineg st with
    | some st' => mj_ex E df go call bi is loc st' h
    | none => none) := id rfl
theorem ms_ladd : mj_ex E df go call bi ((.ladd, x, v) :: is) loc st h = (match mj_pu .ladd st with
    | some st' => mj_ex E df go call bi is loc st' h
    | none => none) := id rfl
theorem ms_lsub : mj_ex E df go call bi ((.lsub, x, v) :: is) loc st h = (match mj_pu .lsub st with
    | some st' => mj_ex E df go call bi is loc st' h
    | none => none) := id rfl
theorem ms_lmul : mj_ex E df go call bi ((.lmul, x, v) :: is) loc st h = (match mj_pu .lmul st with
    | some st' => mj_ex E df go call bi is loc st' h
    | none => none) := id rfl
theorem ms_lor : mj_ex E df go call bi ((.lor, x, v) :: is) loc st h = (match mj_pu .lor st with
    | some st' => mj_ex E df go call bi is loc st' h
    | none => none) := id rfl
theorem ms_ldiv : mj_ex E df go call bi ((.ldiv, x, v) :: is) loc st h = (match mj_pu .ldiv st with
    | some st' => mj_ex E df go call bi is loc st' h
    | none => none) := id rfl
theorem ms_lrem : mj_ex E df go call bi ((.lrem, x, v) :: is) loc st h = (match mj_pu .lrem st with
    | some st' => mj_ex E df go call bi is loc st' h
    | none => none) := id rfl
theorem ms_lcmp : mj_ex E df go call bi ((.lcmp, x, v) :: is) loc st h = (match mj_pu .lcmp st with
    | some st' => mj_ex E df go call bi is loc st' h
    | none => none) := id rfl
theorem ms_lneg : mj_ex E df go call bi ((.lneg, x, v) :: is) loc st h = (match mj_pu .lneg st with
    | some st' => mj_ex E df go call bi is loc st' h
    | none => none) := id rfl
theorem ms_lshl : mj_ex E df go call bi ((.lshl, x, v) :: is) loc st h = (match mj_pu .lshl st with
    | some st' => mj_ex E df go call bi is loc st' h
    | none => none) := id rfl
theorem ms_lshr : mj_ex E df go call bi ((.lshr, x, v) :: is) loc st h = (match mj_pu .lshr st with
    | some st' => mj_ex E df go call bi is loc st' h
    | none => none) := id rfl
theorem ms_i2l : mj_ex E df go call bi ((.i2l, x, v) :: is) loc st h = (match mj_pu .i2l st with
    | some st' => mj_ex E df go call bi is loc st' h
    | none => none) := id rfl
theorem ms_l2i : mj_ex E df go call bi ((.l2i, x, v) :: is) loc st h = (match mj_pu .l2i st with
    | some st' => mj_ex E df go call bi is loc st' h
    | none => none) := id rfl
theorem ms_i2c : mj_ex E df go call bi ((.i2c, x, v) :: is) loc st h = (match mj_pu .i2c st with
    | some st' => mj_ex E df go call bi is loc st' h
    | none => none) := id rfl
theorem ms_i2b : mj_ex E df go call bi ((.i2b, x, v) :: is) loc st h = (match mj_pu .i2b st with
    | some st' => mj_ex E df go call bi is loc st' h
    | none => none) := id rfl
theorem ms_dup : mj_ex E df go call bi ((.dup, x, v) :: is) loc st h = (match mj_pu .dup st with
    | some st' => mj_ex E df go call bi is loc st' h
    | none => none) := id rfl
theorem ms_pop : mj_ex E df go call bi ((.pop, x, v) :: is) loc st h = (match mj_pu .pop st with
    | some st' => mj_ex E df go call bi is loc st' h
    | none => none) := id rfl
theorem ms_dup2 : mj_ex E df go call bi ((.dup2, x, v) :: is) loc st h = (match mj_pu .dup2 st with
    | some st' => mj_ex E df go call bi is loc st' h
    | none => none) := id rfl
end MJS
def mj_t2 : String := "<>=#+-*/();"
def mj_t3 : String := "bites returns person bite come walk to behind deep if then else end or and not hour place cloves who depth with since joy "
/-- the two texts: their lengths, their bytes -/
def mj_len : List Nat := [11, 122]
def mj_byt : List (List Int32) := [[60, 62, 61, 35, 43, 45, 42, 47, 40, 41, 59], [98, 105, 116, 101, 115, 32, 114, 101, 116, 117, 114, 110, 115, 32, 112, 101, 114, 115, 111, 110, 32, 98, 105, 116, 101, 32, 99, 111, 109, 101, 32, 119, 97, 108, 107, 32, 116, 111, 32, 98, 101, 104, 105, 110, 100, 32, 100, 101, 101, 112, 32, 105, 102, 32, 116, 104, 101, 110, 32, 101, 108, 115, 101, 32, 101, 110, 100, 32, 111, 114, 32, 97, 110, 100, 32, 110, 111, 116, 32, 104, 111, 117, 114, 32, 112, 108, 97, 99, 101, 32, 99, 108, 111, 118, 101, 115, 32, 119, 104, 111, 32, 100, 101, 112, 116, 104, 32, 119, 105, 116, 104, 32, 115, 105, 110, 99, 101, 32, 106, 111, 121, 32]]
def mj_bi (b : Nat) (av : List Value) (h : mj_H) : mj_R := match b with
  | 0 => match av with
    | [.int x, .int y] => some (some (.int (if x < y then y else x)), h)
    | _ => none
  | 1 => match av with
    | [.int x, .int y] => some (some (.int (if y < x then y else x)), h)
    | _ => none
  | 2 => match av with
    | [.long x, .long y] => some (some (.long (if y < x then x else y)), h)
    | _ => none
  | 3 => match av with
    | [.long x, .long y] => some (some (.long (if y < x then y else x)), h)
    | _ => none
  | 4 => match av with
    | [.ref k] => match h[k]? with
      | some (.inl (0, n, .inl f)) => some (some (.ref h.length), h ++ [.inl (0, n, .inl f)])
      | _ => none
    | _ => none
  | 5 => match av with
    | [.ref k0, .int sp, .ref k1, .int dp, .int n] => match h[k0]?, h[k1]? with
      | some (.inl (0, n0, .inl f)), some (.inl (0, n1, .inl g)) => if 0 ≤ sp.toInt ∧ 0 ≤ dp.toInt ∧ 0 ≤ n.toInt ∧ sp.toInt + n.toInt ≤ n0 ∧ dp.toInt + n.toInt ≤ n1 then some (none, h.set k1 (.inl (0, n1, .inl (va_cpy f g sp.toNatClampNeg dp.toNatClampNeg n.toNatClampNeg)))) else none
      | _, _ => none
    | _ => none
  | _ => none
def mj_inv : List Int32 := [0, 1, 4, 5, 2, 3, 6]
/-- what lies outside: 0 the script, 1 the inverses, 4 and 5 the bytes of the two texts -/
def mj_EE (L : Nat) (xs : Nat → Int32) : mj_E := fun k => match k with
  | 0 => some (0, L, xs)
  | 1 => some (0, 7, fun j => mj_inv.getD j 0)
  | 4 => some (2, 11, fun j => (mj_byt.getD 0 []).getD j 0)
  | 5 => some (2, 122, fun j => (mj_byt.getD 1 []).getD j 0)
  | _ => none
