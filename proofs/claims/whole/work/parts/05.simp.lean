/-! working a block off: one row an instruction (all by rfl); the heap behind the two constructors as a picture: int rows sg, long rows lm, int fields ta (100 * cell + field), references ro, and what came later tl -/
section MJS
variable {E : mj_E} {df : Nat → List Value} {go : Nat → mj_L → List Value → mj_H → mj_R} {call bi : Nat → List Value → mj_H → mj_R} {is : List mj_I} {loc : mj_L} {st : List Value} {h : mj_H} {x : List Nat} {v : Value}
theorem ms_ldc {k : Nat} : mj_ex E df go call bi ((.ldc k, x, v) :: is) loc st h = mj_ex E df go call bi is loc (v :: st) h := rfl
theorem ms_iload {k : Nat} : mj_ex E df go call bi ((.iload k, x, v) :: is) loc st h = (match mj_lget loc k with
    | some (.int y) => mj_ex E df go call bi is loc (.int y :: st) h
    | _ => none) := rfl
theorem ms_lload {k : Nat} : mj_ex E df go call bi ((.lload k, x, v) :: is) loc st h = (match mj_lget loc k with
    | some (.long y) => mj_ex E df go call bi is loc (.long y :: st) h
    | _ => none) := rfl
theorem ms_aload {k : Nat} : mj_ex E df go call bi ((.aload k, x, v) :: is) loc st h = (match mj_lget loc k with
    | some (.ref y) => mj_ex E df go call bi is loc (.ref y :: st) h
    | some .null => mj_ex E df go call bi is loc (.null :: st) h
    | some (.retAddr y) => mj_ex E df go call bi is loc (.retAddr y :: st) h
    | _ => none) := rfl
theorem ms_istore {k : Nat} : mj_ex E df go call bi ((.istore k, x, v) :: is) loc st h = (match st with
    | .int y :: r => if k < loc.length ∧ mj_pl loc k = false then mj_ex E df go call bi is (mj_lset loc k (some (.int y))) r h else none
    | _ => none) := rfl
theorem ms_lstore {k : Nat} : mj_ex E df go call bi ((.lstore k, x, v) :: is) loc st h = (match st with
    | .long y :: r => if k + 1 < loc.length ∧ mj_pl loc k = false then mj_ex E df go call bi is (mj_lset (mj_lset loc k (some (.long y))) (k + 1) none) r h else none
    | _ => none) := rfl
theorem ms_astore {k : Nat} : mj_ex E df go call bi ((.astore k, x, v) :: is) loc st h = (match st with
    | .ref y :: r => if k < loc.length ∧ mj_pl loc k = false then mj_ex E df go call bi is (mj_lset loc k (some (.ref y))) r h else none
    | .null :: r => if k < loc.length ∧ mj_pl loc k = false then mj_ex E df go call bi is (mj_lset loc k (some .null)) r h else none
    | _ => none) := rfl
theorem ms_iinc {k : Nat} {n : Int} {y z : Int32} (hk : mj_lget loc k = some (.int y)) : mj_ex E df go call bi ((.iinc k n, x, .int z) :: is) loc st h = (if k < loc.length ∧ mj_pl loc k = false then mj_ex E df go call bi is (mj_lset loc k (some (.int (y + z)))) st h else none) := by
  show (match (generalizing := false) mj_lget loc k, Value.int z with
    | some (.int y), .int z => if k < loc.length ∧ mj_pl loc k = false then mj_ex E df go call bi is (mj_lset loc k (some (.int (y + z)))) st h else none
    | _, _ => none) = _
  rw [hk]
theorem ms_nop : mj_ex E df go call bi ((.nop, x, v) :: is) loc st h = mj_ex E df go call bi is (mj_kill x loc) st h := rfl
theorem ms_jsr {k : Int} {b : Nat} : mj_ex E df go call bi ((.jsr k, [b], v) :: is) loc st h = go b loc st h := rfl
theorem ms_goto {k : Int} {b : Nat} : mj_ex E df go call bi ((.goto k, [b], v) :: is) loc st h = go b loc st h := rfl
theorem ms_if {c : Jvm.ClassFile.Cond} {k : Int} {bt bf : Nat} : mj_ex E df go call bi ((.ifCond c k, [bt, bf], v) :: is) loc st h = (match st with
    | .int a :: r => if mj_cmp c a 0 = true then go bt loc r h else go bf loc r h
    | _ => none) := rfl
theorem ms_icmp {c : Jvm.ClassFile.Cond} {k : Int} {bt bf : Nat} : mj_ex E df go call bi ((.if_icmp c k, [bt, bf], v) :: is) loc st h = (match st with
    | .int b :: .int a :: r => if mj_cmp c a b = true then go bt loc r h else go bf loc r h
    | _ => none) := rfl
theorem ms_ifnull {k : Int} {bt bf : Nat} : mj_ex E df go call bi ((.ifnull k, [bt, bf], v) :: is) loc st h = (match st with
    | .null :: r => go bt loc r h
    | .ref _ :: r => go bf loc r h
    | _ => none) := rfl
theorem ms_ifnonnull {k : Int} {bt bf : Nat} : mj_ex E df go call bi ((.ifnonnull k, [bt, bf], v) :: is) loc st h = (match st with
    | .null :: r => go bf loc r h
    | .ref _ :: r => go bt loc r h
    | _ => none) := rfl
theorem ms_tsw {d lo hi : Int} {of : Array Int} : mj_ex E df go call bi ((.tableswitch d lo hi of, x, v) :: is) loc st h = (match st with
    | .int a :: r => go (x.getD (mj_tsw lo hi a) 0) loc r h
    | _ => none) := rfl
theorem ms_lsw {d : Int} {ps : Array (Int × Int)} : mj_ex E df go call bi ((.lookupswitch d ps, x, v) :: is) loc st h = (match st with
    | .int a :: r => go (x.getD (mj_lsw a.toInt ps.toList 1) 0) loc r h
    | _ => none) := rfl
theorem ms_ireturn : mj_ex E df go call bi ((.ireturn, x, v) :: is) loc st h = (match mj_ret .ireturn x st with
    | some rv => some (rv, h)
    | none => none) := rfl
theorem ms_lreturn : mj_ex E df go call bi ((.lreturn, x, v) :: is) loc st h = (match mj_ret .lreturn x st with
    | some rv => some (rv, h)
    | none => none) := rfl
theorem ms_areturn : mj_ex E df go call bi ((.areturn, x, v) :: is) loc st h = (match mj_ret .areturn x st with
    | some rv => some (rv, h)
    | none => none) := rfl
theorem ms_return_ : mj_ex E df go call bi ((.return_, x, v) :: is) loc st h = (match mj_ret .return_ x st with
    | some rv => some (rv, h)
    | none => none) := rfl
theorem ms_iaload : mj_ex E df go call bi ((.iaload, x, v) :: is) loc st h = (match mj_ald E 0 st h with
    | some st' => mj_ex E df go call bi is loc st' h
    | none => none) := rfl
theorem ms_caload : mj_ex E df go call bi ((.caload, x, v) :: is) loc st h = (match mj_ald E 1 st h with
    | some st' => mj_ex E df go call bi is loc st' h
    | none => none) := rfl
theorem ms_baload : mj_ex E df go call bi ((.baload, x, v) :: is) loc st h = (match mj_ald E 2 st h with
    | some st' => mj_ex E df go call bi is loc st' h
    | none => none) := rfl
theorem ms_laload : mj_ex E df go call bi ((.laload, x, v) :: is) loc st h = (match mj_lald st h with
    | some st' => mj_ex E df go call bi is loc st' h
    | none => none) := rfl
theorem ms_aaload : mj_ex E df go call bi ((.aaload, x, v) :: is) loc st h = (match mj_aald st h with
    | some st' => mj_ex E df go call bi is loc st' h
    | none => none) := rfl
theorem ms_arraylength : mj_ex E df go call bi ((.arraylength, x, v) :: is) loc st h = (match mj_alen E st h with
    | some st' => mj_ex E df go call bi is loc st' h
    | none => none) := rfl
theorem ms_iastore : mj_ex E df go call bi ((.iastore, x, v) :: is) loc st h = (match mj_ast 0 st h with
    | some (st', h') => mj_ex E df go call bi is loc st' h'
    | none => none) := rfl
theorem ms_castore : mj_ex E df go call bi ((.castore, x, v) :: is) loc st h = (match mj_ast 1 st h with
    | some (st', h') => mj_ex E df go call bi is loc st' h'
    | none => none) := rfl
theorem ms_bastore : mj_ex E df go call bi ((.bastore, x, v) :: is) loc st h = (match mj_ast 2 st h with
    | some (st', h') => mj_ex E df go call bi is loc st' h'
    | none => none) := rfl
theorem ms_lastore : mj_ex E df go call bi ((.lastore, x, v) :: is) loc st h = (match mj_last st h with
    | some (st', h') => mj_ex E df go call bi is loc st' h'
    | none => none) := rfl
theorem ms_aastore {ci : Nat} : mj_ex E df go call bi ((.aastore, [ci], v) :: is) loc st h = (match mj_aast ci st h with
    | some (st', h') => mj_ex E df go call bi is loc st' h'
    | none => none) := rfl
theorem ms_newarray {a : ArrayType} {t u : Nat} : mj_ex E df go call bi ((.newarray a, [t, u], v) :: is) loc st h = (match mj_newa t st h with
    | some (st', h') => mj_ex E df go call bi is loc st' h'
    | none => none) := rfl
theorem ms_anewarray {a : Nat} : mj_ex E df go call bi ((.anewarray a, x, v) :: is) loc st h = (match mj_newa 4 st h with
    | some (st', h') => mj_ex E df go call bi is loc st' h'
    | none => none) := rfl
theorem ms_new {a ci u : Nat} : mj_ex E df go call bi ((.new a, [ci, u], v) :: is) loc st h = mj_ex E df go call bi is loc (.ref h.length :: st) (h ++ [.inr (ci, df ci)]) := rfl
theorem ms_getfield {a ci f u : Nat} : mj_ex E df go call bi ((.getfield a, [ci, f, u], v) :: is) loc st h = (match mj_get ci f st h with
    | some st' => mj_ex E df go call bi is loc st' h
    | none => none) := rfl
theorem ms_putfield {a ci f kd u : Nat} : mj_ex E df go call bi ((.putfield a, [ci, f, kd, u], v) :: is) loc st h = (match mj_put ci f kd st h with
    | some (st', h') => mj_ex E df go call bi is loc st' h'
    | none => none) := rfl
theorem ms_invokevirtual {a mm n ci u : Nat} : mj_ex E df go call bi ((.invokevirtual a, [mm, n, ci, u], v) :: is) loc st h = (match mj_pop n st [] with
    | some (as, r) => if mj_rcv ci as h = true ∧ mj_le4 r = true then match call mm as h with
        | some (rv, h') => mj_ex E df go call bi is loc (rv.toList ++ r) h'
        | none => none
      else none
    | none => none) := rfl
theorem ms_invokespecial {a mm n ci u : Nat} : mj_ex E df go call bi ((.invokespecial a, [mm, n, ci, u], v) :: is) loc st h = (match mj_pop n st [] with
    | some (as, r) => if mj_rcv ci as h = true ∧ mj_le4 r = true then match call mm as h with
        | some (rv, h') => mj_ex E df go call bi is loc (rv.toList ++ r) h'
        | none => none
      else none
    | none => none) := rfl
theorem ms_invokestatic {a mm n ci u : Nat} : mj_ex E df go call bi ((.invokestatic a, [mm, n, ci, u], v) :: is) loc st h = (match mj_pop n st [] with
    | some (as, r) => if mj_le4 r = true then match call mm as h with
        | some (rv, h') => mj_ex E df go call bi is loc (rv.toList ++ r) h'
        | none => none
      else none
    | none => none) := rfl
theorem ms_builtin {a b n u : Nat} : mj_ex E df go call bi ((.invokedynamic a, [b, n, u], v) :: is) loc st h = (match mj_pop n st [] with
    | some (as, r) => if mj_le4 r = true then match bi b as h with
        | some (rv, h') => mj_ex E df go call bi is loc (rv.toList ++ r) h'
        | none => none
      else none
    | none => none) := rfl
theorem ms_checkcast {a : Nat} : mj_ex E df go call bi ((.checkcast a, x, v) :: is) loc st h = (match st with
    | .ref k :: r => match h[k]? with
      | some (.inl (0, _)) => mj_ex E df go call bi is loc (.ref k :: r) h
      | _ => none
    | _ => none) := rfl
theorem ms_objinit : mj_ex E df go call bi ((.athrow, x, v) :: is) loc st h = (match st with
    | [.ref _] => mj_ex E df go call bi is loc [] h
    | _ => none) := rfl
theorem ms_iadd : mj_ex E df go call bi ((.iadd, x, v) :: is) loc st h = (match mj_pu .iadd st with
    | some st' => mj_ex E df go call bi is loc st' h
    | none => none) := rfl
theorem ms_isub : mj_ex E df go call bi ((.isub, x, v) :: is) loc st h = (match mj_pu .isub st with
    | some st' => mj_ex E df go call bi is loc st' h
    | none => none) := rfl
theorem ms_imul : mj_ex E df go call bi ((.imul, x, v) :: is) loc st h = (match mj_pu .imul st with
    | some st' => mj_ex E df go call bi is loc st' h
    | none => none) := rfl
theorem ms_iand : mj_ex E df go call bi ((.iand, x, v) :: is) loc st h = (match mj_pu .iand st with
    | some st' => mj_ex E df go call bi is loc st' h
    | none => none) := rfl
theorem ms_ior : mj_ex E df go call bi ((.ior, x, v) :: is) loc st h = (match mj_pu .ior st with
    | some st' => mj_ex E df go call bi is loc st' h
    | none => none) := rfl
theorem ms_idiv : mj_ex E df go call bi ((.idiv, x, v) :: is) loc st h = (match mj_pu .idiv st with
    | some st' => mj_ex E df go call bi is loc st' h
    | none => none) := rfl
theorem ms_irem : mj_ex E df go call bi ((.irem, x, v) :: is) loc st h = (match mj_pu .irem st with
    | some st' => mj_ex E df go call bi is loc st' h
    | none => none) := rfl
theorem ms_ishl : mj_ex E df go call bi ((.ishl, x, v) :: is) loc st h = (match mj_pu .ishl st with
    | some st' => mj_ex E df go call bi is loc st' h
    | none => none) := rfl
theorem ms_ishr : mj_ex E df go call bi ((.ishr, x, v) :: is) loc st h = (match mj_pu .ishr st with
    | some st' => mj_ex E df go call bi is loc st' h
    | none => none) := rfl
theorem ms_iushr : mj_ex E df go call bi ((.iushr, x, v) :: is) loc st h = (match mj_pu .iushr st with
    | some st' => mj_ex E df go call bi is loc st' h
    | none => none) := rfl
theorem ms_ineg : mj_ex E df go call bi ((.ineg, x, v) :: is) loc st h = (match mj_pu .ineg st with
    | some st' => mj_ex E df go call bi is loc st' h
    | none => none) := rfl
theorem ms_ladd : mj_ex E df go call bi ((.ladd, x, v) :: is) loc st h = (match mj_pu .ladd st with
    | some st' => mj_ex E df go call bi is loc st' h
    | none => none) := rfl
theorem ms_lsub : mj_ex E df go call bi ((.lsub, x, v) :: is) loc st h = (match mj_pu .lsub st with
    | some st' => mj_ex E df go call bi is loc st' h
    | none => none) := rfl
theorem ms_lmul : mj_ex E df go call bi ((.lmul, x, v) :: is) loc st h = (match mj_pu .lmul st with
    | some st' => mj_ex E df go call bi is loc st' h
    | none => none) := rfl
theorem ms_lor : mj_ex E df go call bi ((.lor, x, v) :: is) loc st h = (match mj_pu .lor st with
    | some st' => mj_ex E df go call bi is loc st' h
    | none => none) := rfl
theorem ms_ldiv : mj_ex E df go call bi ((.ldiv, x, v) :: is) loc st h = (match mj_pu .ldiv st with
    | some st' => mj_ex E df go call bi is loc st' h
    | none => none) := rfl
theorem ms_lrem : mj_ex E df go call bi ((.lrem, x, v) :: is) loc st h = (match mj_pu .lrem st with
    | some st' => mj_ex E df go call bi is loc st' h
    | none => none) := rfl
theorem ms_lcmp : mj_ex E df go call bi ((.lcmp, x, v) :: is) loc st h = (match mj_pu .lcmp st with
    | some st' => mj_ex E df go call bi is loc st' h
    | none => none) := rfl
theorem ms_lneg : mj_ex E df go call bi ((.lneg, x, v) :: is) loc st h = (match mj_pu .lneg st with
    | some st' => mj_ex E df go call bi is loc st' h
    | none => none) := rfl
theorem ms_lshl : mj_ex E df go call bi ((.lshl, x, v) :: is) loc st h = (match mj_pu .lshl st with
    | some st' => mj_ex E df go call bi is loc st' h
    | none => none) := rfl
theorem ms_lshr : mj_ex E df go call bi ((.lshr, x, v) :: is) loc st h = (match mj_pu .lshr st with
    | some st' => mj_ex E df go call bi is loc st' h
    | none => none) := rfl
theorem ms_i2l : mj_ex E df go call bi ((.i2l, x, v) :: is) loc st h = (match mj_pu .i2l st with
    | some st' => mj_ex E df go call bi is loc st' h
    | none => none) := rfl
theorem ms_l2i : mj_ex E df go call bi ((.l2i, x, v) :: is) loc st h = (match mj_pu .l2i st with
    | some st' => mj_ex E df go call bi is loc st' h
    | none => none) := rfl
theorem ms_i2c : mj_ex E df go call bi ((.i2c, x, v) :: is) loc st h = (match mj_pu .i2c st with
    | some st' => mj_ex E df go call bi is loc st' h
    | none => none) := rfl
theorem ms_i2b : mj_ex E df go call bi ((.i2b, x, v) :: is) loc st h = (match mj_pu .i2b st with
    | some st' => mj_ex E df go call bi is loc st' h
    | none => none) := rfl
theorem ms_dup : mj_ex E df go call bi ((.dup, x, v) :: is) loc st h = (match mj_pu .dup st with
    | some st' => mj_ex E df go call bi is loc st' h
    | none => none) := rfl
theorem ms_pop : mj_ex E df go call bi ((.pop, x, v) :: is) loc st h = (match mj_pu .pop st with
    | some st' => mj_ex E df go call bi is loc st' h
    | none => none) := rfl
theorem ms_dup2 : mj_ex E df go call bi ((.dup2, x, v) :: is) loc st h = (match mj_pu .dup2 st with
    | some st' => mj_ex E df go call bi is loc st' h
    | none => none) := rfl
end MJS
def mj_t2 : String := "<>=#+-*/();"
def mj_t3 : String := "bites returns person bite come walk to behind deep if then else end or and not hour place cloves who depth with since joy "
/-- the two texts: their lengths, their bytes -/
def mj_len : List Nat := [11, 122]
def mj_byt : List (List Int32) := [[60, 62, 61, 35, 43, 45, 42, 47, 40, 41, 59], [98, 105, 116, 101, 115, 32, 114, 101, 116, 117, 114, 110, 115, 32, 112, 101, 114, 115, 111, 110, 32, 98, 105, 116, 101, 32, 99, 111, 109, 101, 32, 119, 97, 108, 107, 32, 116, 111, 32, 98, 101, 104, 105, 110, 100, 32, 100, 101, 101, 112, 32, 105, 102, 32, 116, 104, 101, 110, 32, 101, 108, 115, 101, 32, 101, 110, 100, 32, 111, 114, 32, 97, 110, 100, 32, 110, 111, 116, 32, 104, 111, 117, 114, 32, 112, 108, 97, 99, 101, 32, 99, 108, 111, 118, 101, 115, 32, 119, 104, 111, 32, 100, 101, 112, 116, 104, 32, 119, 105, 116, 104, 32, 115, 105, 110, 99, 101, 32, 106, 111, 121, 32]]
def mj_bi (b : Nat) (av : List Value) (h : mj_H) : mj_R := match b with
  | 0 => match av with
    | [.int x, .int y] => some (some (.int (if x < y then y else x)), h)
    | _ => none
  | 1 => match av with
    | [.int x, .int y] => some (some (.int (if y < x then y else x)), h)
    | _ => none
  | 2 => match av with
    | [.long x, .long y] => some (some (.long (if y < x then x else y)), h)
    | _ => none
  | 3 => match av with
    | [.long x, .long y] => some (some (.long (if y < x then y else x)), h)
    | _ => none
  | 4 => match av with
    | [.ref k] => match h[k]? with
      | some (.inl (0, n, .inl f)) => some (some (.ref h.length), h ++ [.inl (0, n, .inl f)])
      | _ => none
    | _ => none
  | 5 => match av with
    | [.ref k0, .int sp, .ref k1, .int dp, .int n] => match h[k0]?, h[k1]? with
      | some (.inl (0, n0, .inl f)), some (.inl (0, n1, .inl g)) => if 0 ≤ sp.toInt ∧ 0 ≤ dp.toInt ∧ 0 ≤ n.toInt ∧ sp.toInt + n.toInt ≤ n0 ∧ dp.toInt + n.toInt ≤ n1 then some (none, h.set k1 (.inl (0, n1, .inl (va_cpy f g sp.toNatClampNeg dp.toNatClampNeg n.toNatClampNeg)))) else none
      | _, _ => none
    | _ => none
  | _ => none
def mj_inv : List Int32 := [0, 1, 4, 5, 2, 3, 6]
/-- what lies outside: 0 the script, 1 the inverses, 4 and 5 the bytes of the two texts -/
def mj_EE (L : Nat) (xs : Nat → Int32) : mj_E := fun k => match k with
  | 0 => some (0, L, xs)
  | 1 => some (0, 7, fun j => mj_inv.getD j 0)
  | 4 => some (2, 11, fun j => (mj_byt.getD 0 []).getD j 0)
  | 5 => some (2, 122, fun j => (mj_byt.getD 1 []).getD j 0)
  | _ => none
section MJP
variable (sg : Nat → Nat → Int32) (lm : Nat → Nat → Int64) (ta : Nat → Int32) (ro : Nat → Nat → Option Nat) (tl : List mj_C)
def mj_HP : mj_H := .inr (11, [.ref 4, .ref 24, .ref 44, .ref 46, .ref 51, .ref 54]) ::
  .inr (0, [.ref 2, .ref 3, .int (ta 102)]) ::
  .inl (0, 8, .inl (sg 2)) ::
  .inl (0, 300, .inl (sg 3)) ::
  .inr (10, [.ref 5, .ref 9, .ref 11, .ref 15, .ref 19, .ref 21, .ref 22, .ref 23, .ref 1, .int (ta 409), .int (ta 410), .int (ta 411)]) ::
  .inr (3, [.ref 6, .ref 7, .ref 8]) ::
  .inl (0, 8, .inl (sg 6)) ::
  .inl (0, 8, .inl (sg 7)) ::
  .inl (0, 8, .inl (sg 8)) ::
  .inr (2, [.ref 10]) ::
  .inl (0, 54, .inl (sg 10)) ::
  .inr (1, [.ref 12, .ref 13, .ref 14]) ::
  .inl (0, 2, .inl (sg 12)) ::
  .inl (0, 2, .inl (sg 13)) ::
  .inl (0, 25, .inl (sg 14)) ::
  .inr (4, [.ref 16, .ref 17, .ref 18, .int (ta 1503), .int (ta 1504)]) ::
  .inl (0, 16, .inl (sg 16)) ::
  .inl (0, 144, .inl (sg 17)) ::
  .inl (0, 9, .inl (sg 18)) ::
  .inr (7, [.ref 20, .int (ta 1901), .int (ta 1902)]) ::
  .inl (0, 1620, .inl (sg 20)) ::
  .inl (4, 4, .inr (.inr (.inr (.inr (ro 21))))) ::
  .inl (0, 8, .inl (sg 22)) ::
  .inl (0, 8, .inl (sg 23)) ::
  .inr (10, [.ref 25, .ref 29, .ref 31, .ref 35, .ref 39, .ref 41, .ref 42, .ref 43, .ref 1, .int (ta 2409), .int (ta 2410), .int (ta 2411)]) ::
  .inr (3, [.ref 26, .ref 27, .ref 28]) ::
  .inl (0, 8, .inl (sg 26)) ::
  .inl (0, 8, .inl (sg 27)) ::
  .inl (0, 8, .inl (sg 28)) ::
  .inr (2, [.ref 30]) ::
  .inl (0, 54, .inl (sg 30)) ::
  .inr (1, [.ref 32, .ref 33, .ref 34]) ::
  .inl (0, 2, .inl (sg 32)) ::
  .inl (0, 2, .inl (sg 33)) ::
  .inl (0, 25, .inl (sg 34)) ::
  .inr (4, [.ref 36, .ref 37, .ref 38, .int (ta 3503), .int (ta 3504)]) ::
  .inl (0, 16, .inl (sg 36)) ::
  .inl (0, 144, .inl (sg 37)) ::
  .inl (0, 9, .inl (sg 38)) ::
  .inr (7, [.ref 40, .int (ta 3901), .int (ta 3902)]) ::
  .inl (0, 1620, .inl (sg 40)) ::
  .inl (4, 4, .inr (.inr (.inr (.inr (ro 41))))) ::
  .inl (0, 8, .inl (sg 42)) ::
  .inl (0, 8, .inl (sg 43)) ::
  .inr (2, [.ref 45]) ::
  .inl (0, 54, .inl (sg 45)) ::
  .inr (8, [.ref 47, .ref 48, .ref 49, .ref 50, .int (ta 4604), .int (ta 4605), .int (ta 4606)]) ::
  .inl (1, 300, .inl (sg 47)) ::
  .inl (0, 301, .inl (sg 48)) ::
  .inl (0, 301, .inl (sg 49)) ::
  .inl (0, 301, .inl (sg 50)) ::
  .inr (6, [.ref 46, .ref 52, .ref 53, mj_rf (ro 5103 0), mj_rf (ro 5104 0), .int (ta 5105), .int (ta 5106), .int (ta 5107), .int (ta 5108), .int (ta 5109)]) ::
  .inl (0, 300, .inl (sg 52)) ::
  .inl (0, 72, .inl (sg 53)) ::
  .inr (5, [.ref 55, .ref 56, .ref 57, .ref 58, .int (ta 5404), .int (ta 5405)]) ::
  .inl (0, 9, .inl (sg 55)) ::
  .inl (0, 189, .inl (sg 56)) ::
  .inl (0, 189, .inl (sg 57)) ::
  .inl (3, 9, .inr (.inl (lm 58))) ::
  .inr (12, [.ref 60, .ref 61, .ref 62, .ref 63, .int (ta 5904), .int (ta 5905), .int (ta 5906), .int (ta 5907), .int (ta 5908), .int (ta 5909), .int (ta 5910), .int (ta 5911), .int (ta 5912), .int (ta 5913), .int (ta 5914), .ref 64, .int (ta 5916), .int (ta 5917), .int (ta 5918), .int (ta 5919), .ref 65, .ref 66, .ref 67, .int (ta 5923), .int (ta 5924), .ref 68, .ref 69, .ref 70, .ref 71, .ref 72, .ref 73, .ref 74, .ref 75]) ::
  .inl (0, 1763, .inl (sg 60)) ::
  .inl (0, 1763, .inl (sg 61)) ::
  .inl (0, 2724, .inl (sg 62)) ::
  .inl (0, 300, .inl (sg 63)) ::
  .inl (0, 160, .inl (sg 64)) ::
  .inl (0, 8, .inl (sg 65)) ::
  .inl (3, 330, .inr (.inl (lm 66))) ::
  .inl (2, 330, .inl (sg 67)) ::
  .inl (0, 31, .inl (sg 68)) ::
  .inl (0, 8, .inl (sg 69)) ::
  .inl (0, 49, .inl (sg 70)) ::
  .inl (0, 144, .inl (sg 71)) ::
  .inl (0, 8, .inl (sg 72)) ::
  .inl (0, 9, .inl (sg 73)) ::
  .inl (0, 3969, .inl (sg 74)) ::
  .inl (3, 9, .inr (.inl (lm 75))) :: tl
def mj_us {α : Type} (f : Nat → α) (k : Nat) (v : α) : Nat → α := fun j => if j = k then v else f j
theorem hg_0 : (mj_HP sg lm ta ro tl)[0]? = some (.inr (11, [.ref 4, .ref 24, .ref 44, .ref 46, .ref 51, .ref 54])) := rfl
theorem hg_1 : (mj_HP sg lm ta ro tl)[1]? = some (.inr (0, [.ref 2, .ref 3, .int (ta 102)])) := rfl
theorem hs_1_2 (z : Int32) : (mj_HP sg lm ta ro tl).set 1 (.inr (0, [.ref 2, .ref 3, .int z])) = mj_HP sg lm (mj_us ta 102 z) ro tl := rfl
theorem hg_2 : (mj_HP sg lm ta ro tl)[2]? = some (.inl (0, 8, .inl (sg 2))) := rfl
theorem hs_2 (f : Nat → Int32) : (mj_HP sg lm ta ro tl).set 2 (.inl (0, 8, .inl f)) = mj_HP (mj_us sg 2 f) lm ta ro tl := rfl
theorem hg_3 : (mj_HP sg lm ta ro tl)[3]? = some (.inl (0, 300, .inl (sg 3))) := rfl
theorem hs_3 (f : Nat → Int32) : (mj_HP sg lm ta ro tl).set 3 (.inl (0, 300, .inl f)) = mj_HP (mj_us sg 3 f) lm ta ro tl := rfl
theorem hg_4 : (mj_HP sg lm ta ro tl)[4]? = some (.inr (10, [.ref 5, .ref 9, .ref 11, .ref 15, .ref 19, .ref 21, .ref 22, .ref 23, .ref 1, .int (ta 409), .int (ta 410), .int (ta 411)])) := rfl
theorem hs_4_9 (z : Int32) : (mj_HP sg lm ta ro tl).set 4 (.inr (10, [.ref 5, .ref 9, .ref 11, .ref 15, .ref 19, .ref 21, .ref 22, .ref 23, .ref 1, .int z, .int (ta 410), .int (ta 411)])) = mj_HP sg lm (mj_us ta 409 z) ro tl := rfl
theorem hs_4_10 (z : Int32) : (mj_HP sg lm ta ro tl).set 4 (.inr (10, [.ref 5, .ref 9, .ref 11, .ref 15, .ref 19, .ref 21, .ref 22, .ref 23, .ref 1, .int (ta 409), .int z, .int (ta 411)])) = mj_HP sg lm (mj_us ta 410 z) ro tl := rfl
theorem hs_4_11 (z : Int32) : (mj_HP sg lm ta ro tl).set 4 (.inr (10, [.ref 5, .ref 9, .ref 11, .ref 15, .ref 19, .ref 21, .ref 22, .ref 23, .ref 1, .int (ta 409), .int (ta 410), .int z])) = mj_HP sg lm (mj_us ta 411 z) ro tl := rfl
theorem hg_5 : (mj_HP sg lm ta ro tl)[5]? = some (.inr (3, [.ref 6, .ref 7, .ref 8])) := rfl
theorem hg_6 : (mj_HP sg lm ta ro tl)[6]? = some (.inl (0, 8, .inl (sg 6))) := rfl
theorem hs_6 (f : Nat → Int32) : (mj_HP sg lm ta ro tl).set 6 (.inl (0, 8, .inl f)) = mj_HP (mj_us sg 6 f) lm ta ro tl := rfl
theorem hg_7 : (mj_HP sg lm ta ro tl)[7]? = some (.inl (0, 8, .inl (sg 7))) := rfl
theorem hs_7 (f : Nat → Int32) : (mj_HP sg lm ta ro tl).set 7 (.inl (0, 8, .inl f)) = mj_HP (mj_us sg 7 f) lm ta ro tl := rfl
theorem hg_8 : (mj_HP sg lm ta ro tl)[8]? = some (.inl (0, 8, .inl (sg 8))) := rfl
theorem hs_8 (f : Nat → Int32) : (mj_HP sg lm ta ro tl).set 8 (.inl (0, 8, .inl f)) = mj_HP (mj_us sg 8 f) lm ta ro tl := rfl
theorem hg_9 : (mj_HP sg lm ta ro tl)[9]? = some (.inr (2, [.ref 10])) := rfl
theorem hg_10 : (mj_HP sg lm ta ro tl)[10]? = some (.inl (0, 54, .inl (sg 10))) := rfl
theorem hs_10 (f : Nat → Int32) : (mj_HP sg lm ta ro tl).set 10 (.inl (0, 54, .inl f)) = mj_HP (mj_us sg 10 f) lm ta ro tl := rfl
theorem hg_11 : (mj_HP sg lm ta ro tl)[11]? = some (.inr (1, [.ref 12, .ref 13, .ref 14])) := rfl
theorem hg_12 : (mj_HP sg lm ta ro tl)[12]? = some (.inl (0, 2, .inl (sg 12))) := rfl
theorem hs_12 (f : Nat → Int32) : (mj_HP sg lm ta ro tl).set 12 (.inl (0, 2, .inl f)) = mj_HP (mj_us sg 12 f) lm ta ro tl := rfl
theorem hg_13 : (mj_HP sg lm ta ro tl)[13]? = some (.inl (0, 2, .inl (sg 13))) := rfl
theorem hs_13 (f : Nat → Int32) : (mj_HP sg lm ta ro tl).set 13 (.inl (0, 2, .inl f)) = mj_HP (mj_us sg 13 f) lm ta ro tl := rfl
theorem hg_14 : (mj_HP sg lm ta ro tl)[14]? = some (.inl (0, 25, .inl (sg 14))) := rfl
theorem hs_14 (f : Nat → Int32) : (mj_HP sg lm ta ro tl).set 14 (.inl (0, 25, .inl f)) = mj_HP (mj_us sg 14 f) lm ta ro tl := rfl
theorem hg_15 : (mj_HP sg lm ta ro tl)[15]? = some (.inr (4, [.ref 16, .ref 17, .ref 18, .int (ta 1503), .int (ta 1504)])) := rfl
theorem hs_15_3 (z : Int32) : (mj_HP sg lm ta ro tl).set 15 (.inr (4, [.ref 16, .ref 17, .ref 18, .int z, .int (ta 1504)])) = mj_HP sg lm (mj_us ta 1503 z) ro tl := rfl
theorem hs_15_4 (z : Int32) : (mj_HP sg lm ta ro tl).set 15 (.inr (4, [.ref 16, .ref 17, .ref 18, .int (ta 1503), .int z])) = mj_HP sg lm (mj_us ta 1504 z) ro tl := rfl
theorem hg_16 : (mj_HP sg lm ta ro tl)[16]? = some (.inl (0, 16, .inl (sg 16))) := rfl
theorem hs_16 (f : Nat → Int32) : (mj_HP sg lm ta ro tl).set 16 (.inl (0, 16, .inl f)) = mj_HP (mj_us sg 16 f) lm ta ro tl := rfl
theorem hg_17 : (mj_HP sg lm ta ro tl)[17]? = some (.inl (0, 144, .inl (sg 17))) := rfl
theorem hs_17 (f : Nat → Int32) : (mj_HP sg lm ta ro tl).set 17 (.inl (0, 144, .inl f)) = mj_HP (mj_us sg 17 f) lm ta ro tl := rfl
theorem hg_18 : (mj_HP sg lm ta ro tl)[18]? = some (.inl (0, 9, .inl (sg 18))) := rfl
theorem hs_18 (f : Nat → Int32) : (mj_HP sg lm ta ro tl).set 18 (.inl (0, 9, .inl f)) = mj_HP (mj_us sg 18 f) lm ta ro tl := rfl
theorem hg_19 : (mj_HP sg lm ta ro tl)[19]? = some (.inr (7, [.ref 20, .int (ta 1901), .int (ta 1902)])) := rfl
theorem hs_19_1 (z : Int32) : (mj_HP sg lm ta ro tl).set 19 (.inr (7, [.ref 20, .int z, .int (ta 1902)])) = mj_HP sg lm (mj_us ta 1901 z) ro tl := rfl
theorem hs_19_2 (z : Int32) : (mj_HP sg lm ta ro tl).set 19 (.inr (7, [.ref 20, .int (ta 1901), .int z])) = mj_HP sg lm (mj_us ta 1902 z) ro tl := rfl
theorem hg_20 : (mj_HP sg lm ta ro tl)[20]? = some (.inl (0, 1620, .inl (sg 20))) := rfl
theorem hs_20 (f : Nat → Int32) : (mj_HP sg lm ta ro tl).set 20 (.inl (0, 1620, .inl f)) = mj_HP (mj_us sg 20 f) lm ta ro tl := rfl
theorem hg_21 : (mj_HP sg lm ta ro tl)[21]? = some (.inl (4, 4, .inr (.inr (.inr (.inr (ro 21)))))) := rfl
theorem hs_21 (f : Nat → Option Nat) : (mj_HP sg lm ta ro tl).set 21 (.inl (4, 4, .inr (.inr (.inr (.inr f))))) = mj_HP sg lm ta (mj_us ro 21 f) tl := rfl
theorem hg_22 : (mj_HP sg lm ta ro tl)[22]? = some (.inl (0, 8, .inl (sg 22))) := rfl
theorem hs_22 (f : Nat → Int32) : (mj_HP sg lm ta ro tl).set 22 (.inl (0, 8, .inl f)) = mj_HP (mj_us sg 22 f) lm ta ro tl := rfl
theorem hg_23 : (mj_HP sg lm ta ro tl)[23]? = some (.inl (0, 8, .inl (sg 23))) := rfl
theorem hs_23 (f : Nat → Int32) : (mj_HP sg lm ta ro tl).set 23 (.inl (0, 8, .inl f)) = mj_HP (mj_us sg 23 f) lm ta ro tl := rfl
theorem hg_24 : (mj_HP sg lm ta ro tl)[24]? = some (.inr (10, [.ref 25, .ref 29, .ref 31, .ref 35, .ref 39, .ref 41, .ref 42, .ref 43, .ref 1, .int (ta 2409), .int (ta 2410), .int (ta 2411)])) := rfl
theorem hs_24_9 (z : Int32) : (mj_HP sg lm ta ro tl).set 24 (.inr (10, [.ref 25, .ref 29, .ref 31, .ref 35, .ref 39, .ref 41, .ref 42, .ref 43, .ref 1, .int z, .int (ta 2410), .int (ta 2411)])) = mj_HP sg lm (mj_us ta 2409 z) ro tl := rfl
theorem hs_24_10 (z : Int32) : (mj_HP sg lm ta ro tl).set 24 (.inr (10, [.ref 25, .ref 29, .ref 31, .ref 35, .ref 39, .ref 41, .ref 42, .ref 43, .ref 1, .int (ta 2409), .int z, .int (ta 2411)])) = mj_HP sg lm (mj_us ta 2410 z) ro tl := rfl
theorem hs_24_11 (z : Int32) : (mj_HP sg lm ta ro tl).set 24 (.inr (10, [.ref 25, .ref 29, .ref 31, .ref 35, .ref 39, .ref 41, .ref 42, .ref 43, .ref 1, .int (ta 2409), .int (ta 2410), .int z])) = mj_HP sg lm (mj_us ta 2411 z) ro tl := rfl
theorem hg_25 : (mj_HP sg lm ta ro tl)[25]? = some (.inr (3, [.ref 26, .ref 27, .ref 28])) := rfl
theorem hg_26 : (mj_HP sg lm ta ro tl)[26]? = some (.inl (0, 8, .inl (sg 26))) := rfl
theorem hs_26 (f : Nat → Int32) : (mj_HP sg lm ta ro tl).set 26 (.inl (0, 8, .inl f)) = mj_HP (mj_us sg 26 f) lm ta ro tl := rfl
theorem hg_27 : (mj_HP sg lm ta ro tl)[27]? = some (.inl (0, 8, .inl (sg 27))) := rfl
theorem hs_27 (f : Nat → Int32) : (mj_HP sg lm ta ro tl).set 27 (.inl (0, 8, .inl f)) = mj_HP (mj_us sg 27 f) lm ta ro tl := rfl
theorem hg_28 : (mj_HP sg lm ta ro tl)[28]? = some (.inl (0, 8, .inl (sg 28))) := rfl
theorem hs_28 (f : Nat → Int32) : (mj_HP sg lm ta ro tl).set 28 (.inl (0, 8, .inl f)) = mj_HP (mj_us sg 28 f) lm ta ro tl := rfl
theorem hg_29 : (mj_HP sg lm ta ro tl)[29]? = some (.inr (2, [.ref 30])) := rfl
theorem hg_30 : (mj_HP sg lm ta ro tl)[30]? = some (.inl (0, 54, .inl (sg 30))) := rfl
theorem hs_30 (f : Nat → Int32) : (mj_HP sg lm ta ro tl).set 30 (.inl (0, 54, .inl f)) = mj_HP (mj_us sg 30 f) lm ta ro tl := rfl
theorem hg_31 : (mj_HP sg lm ta ro tl)[31]? = some (.inr (1, [.ref 32, .ref 33, .ref 34])) := rfl
theorem hg_32 : (mj_HP sg lm ta ro tl)[32]? = some (.inl (0, 2, .inl (sg 32))) := rfl
theorem hs_32 (f : Nat → Int32) : (mj_HP sg lm ta ro tl).set 32 (.inl (0, 2, .inl f)) = mj_HP (mj_us sg 32 f) lm ta ro tl := rfl
theorem hg_33 : (mj_HP sg lm ta ro tl)[33]? = some (.inl (0, 2, .inl (sg 33))) := rfl
theorem hs_33 (f : Nat → Int32) : (mj_HP sg lm ta ro tl).set 33 (.inl (0, 2, .inl f)) = mj_HP (mj_us sg 33 f) lm ta ro tl := rfl
theorem hg_34 : (mj_HP sg lm ta ro tl)[34]? = some (.inl (0, 25, .inl (sg 34))) := rfl
theorem hs_34 (f : Nat → Int32) : (mj_HP sg lm ta ro tl).set 34 (.inl (0, 25, .inl f)) = mj_HP (mj_us sg 34 f) lm ta ro tl := rfl
theorem hg_35 : (mj_HP sg lm ta ro tl)[35]? = some (.inr (4, [.ref 36, .ref 37, .ref 38, .int (ta 3503), .int (ta 3504)])) := rfl
theorem hs_35_3 (z : Int32) : (mj_HP sg lm ta ro tl).set 35 (.inr (4, [.ref 36, .ref 37, .ref 38, .int z, .int (ta 3504)])) = mj_HP sg lm (mj_us ta 3503 z) ro tl := rfl
theorem hs_35_4 (z : Int32) : (mj_HP sg lm ta ro tl).set 35 (.inr (4, [.ref 36, .ref 37, .ref 38, .int (ta 3503), .int z])) = mj_HP sg lm (mj_us ta 3504 z) ro tl := rfl
theorem hg_36 : (mj_HP sg lm ta ro tl)[36]? = some (.inl (0, 16, .inl (sg 36))) := rfl
theorem hs_36 (f : Nat → Int32) : (mj_HP sg lm ta ro tl).set 36 (.inl (0, 16, .inl f)) = mj_HP (mj_us sg 36 f) lm ta ro tl := rfl
theorem hg_37 : (mj_HP sg lm ta ro tl)[37]? = some (.inl (0, 144, .inl (sg 37))) := rfl
theorem hs_37 (f : Nat → Int32) : (mj_HP sg lm ta ro tl).set 37 (.inl (0, 144, .inl f)) = mj_HP (mj_us sg 37 f) lm ta ro tl := rfl
theorem hg_38 : (mj_HP sg lm ta ro tl)[38]? = some (.inl (0, 9, .inl (sg 38))) := rfl
theorem hs_38 (f : Nat → Int32) : (mj_HP sg lm ta ro tl).set 38 (.inl (0, 9, .inl f)) = mj_HP (mj_us sg 38 f) lm ta ro tl := rfl
theorem hg_39 : (mj_HP sg lm ta ro tl)[39]? = some (.inr (7, [.ref 40, .int (ta 3901), .int (ta 3902)])) := rfl
theorem hs_39_1 (z : Int32) : (mj_HP sg lm ta ro tl).set 39 (.inr (7, [.ref 40, .int z, .int (ta 3902)])) = mj_HP sg lm (mj_us ta 3901 z) ro tl := rfl
theorem hs_39_2 (z : Int32) : (mj_HP sg lm ta ro tl).set 39 (.inr (7, [.ref 40, .int (ta 3901), .int z])) = mj_HP sg lm (mj_us ta 3902 z) ro tl := rfl
theorem hg_40 : (mj_HP sg lm ta ro tl)[40]? = some (.inl (0, 1620, .inl (sg 40))) := rfl
theorem hs_40 (f : Nat → Int32) : (mj_HP sg lm ta ro tl).set 40 (.inl (0, 1620, .inl f)) = mj_HP (mj_us sg 40 f) lm ta ro tl := rfl
theorem hg_41 : (mj_HP sg lm ta ro tl)[41]? = some (.inl (4, 4, .inr (.inr (.inr (.inr (ro 41)))))) := rfl
theorem hs_41 (f : Nat → Option Nat) : (mj_HP sg lm ta ro tl).set 41 (.inl (4, 4, .inr (.inr (.inr (.inr f))))) = mj_HP sg lm ta (mj_us ro 41 f) tl := rfl
theorem hg_42 : (mj_HP sg lm ta ro tl)[42]? = some (.inl (0, 8, .inl (sg 42))) := rfl
theorem hs_42 (f : Nat → Int32) : (mj_HP sg lm ta ro tl).set 42 (.inl (0, 8, .inl f)) = mj_HP (mj_us sg 42 f) lm ta ro tl := rfl
theorem hg_43 : (mj_HP sg lm ta ro tl)[43]? = some (.inl (0, 8, .inl (sg 43))) := rfl
theorem hs_43 (f : Nat → Int32) : (mj_HP sg lm ta ro tl).set 43 (.inl (0, 8, .inl f)) = mj_HP (mj_us sg 43 f) lm ta ro tl := rfl
theorem hg_44 : (mj_HP sg lm ta ro tl)[44]? = some (.inr (2, [.ref 45])) := rfl
theorem hg_45 : (mj_HP sg lm ta ro tl)[45]? = some (.inl (0, 54, .inl (sg 45))) := rfl
theorem hs_45 (f : Nat → Int32) : (mj_HP sg lm ta ro tl).set 45 (.inl (0, 54, .inl f)) = mj_HP (mj_us sg 45 f) lm ta ro tl := rfl
theorem hg_46 : (mj_HP sg lm ta ro tl)[46]? = some (.inr (8, [.ref 47, .ref 48, .ref 49, .ref 50, .int (ta 4604), .int (ta 4605), .int (ta 4606)])) := rfl
theorem hs_46_4 (z : Int32) : (mj_HP sg lm ta ro tl).set 46 (.inr (8, [.ref 47, .ref 48, .ref 49, .ref 50, .int z, .int (ta 4605), .int (ta 4606)])) = mj_HP sg lm (mj_us ta 4604 z) ro tl := rfl
theorem hs_46_5 (z : Int32) : (mj_HP sg lm ta ro tl).set 46 (.inr (8, [.ref 47, .ref 48, .ref 49, .ref 50, .int (ta 4604), .int z, .int (ta 4606)])) = mj_HP sg lm (mj_us ta 4605 z) ro tl := rfl
theorem hs_46_6 (z : Int32) : (mj_HP sg lm ta ro tl).set 46 (.inr (8, [.ref 47, .ref 48, .ref 49, .ref 50, .int (ta 4604), .int (ta 4605), .int z])) = mj_HP sg lm (mj_us ta 4606 z) ro tl := rfl
theorem hg_47 : (mj_HP sg lm ta ro tl)[47]? = some (.inl (1, 300, .inl (sg 47))) := rfl
theorem hs_47 (f : Nat → Int32) : (mj_HP sg lm ta ro tl).set 47 (.inl (1, 300, .inl f)) = mj_HP (mj_us sg 47 f) lm ta ro tl := rfl
theorem hg_48 : (mj_HP sg lm ta ro tl)[48]? = some (.inl (0, 301, .inl (sg 48))) := rfl
theorem hs_48 (f : Nat → Int32) : (mj_HP sg lm ta ro tl).set 48 (.inl (0, 301, .inl f)) = mj_HP (mj_us sg 48 f) lm ta ro tl := rfl
theorem hg_49 : (mj_HP sg lm ta ro tl)[49]? = some (.inl (0, 301, .inl (sg 49))) := rfl
theorem hs_49 (f : Nat → Int32) : (mj_HP sg lm ta ro tl).set 49 (.inl (0, 301, .inl f)) = mj_HP (mj_us sg 49 f) lm ta ro tl := rfl
theorem hg_50 : (mj_HP sg lm ta ro tl)[50]? = some (.inl (0, 301, .inl (sg 50))) := rfl
theorem hs_50 (f : Nat → Int32) : (mj_HP sg lm ta ro tl).set 50 (.inl (0, 301, .inl f)) = mj_HP (mj_us sg 50 f) lm ta ro tl := rfl
theorem hg_51 : (mj_HP sg lm ta ro tl)[51]? = some (.inr (6, [.ref 46, .ref 52, .ref 53, mj_rf (ro 5103 0), mj_rf (ro 5104 0), .int (ta 5105), .int (ta 5106), .int (ta 5107), .int (ta 5108), .int (ta 5109)])) := rfl
theorem hs_51_5 (z : Int32) : (mj_HP sg lm ta ro tl).set 51 (.inr (6, [.ref 46, .ref 52, .ref 53, mj_rf (ro 5103 0), mj_rf (ro 5104 0), .int z, .int (ta 5106), .int (ta 5107), .int (ta 5108), .int (ta 5109)])) = mj_HP sg lm (mj_us ta 5105 z) ro tl := rfl
theorem hs_51_6 (z : Int32) : (mj_HP sg lm ta ro tl).set 51 (.inr (6, [.ref 46, .ref 52, .ref 53, mj_rf (ro 5103 0), mj_rf (ro 5104 0), .int (ta 5105), .int z, .int (ta 5107), .int (ta 5108), .int (ta 5109)])) = mj_HP sg lm (mj_us ta 5106 z) ro tl := rfl
theorem hs_51_7 (z : Int32) : (mj_HP sg lm ta ro tl).set 51 (.inr (6, [.ref 46, .ref 52, .ref 53, mj_rf (ro 5103 0), mj_rf (ro 5104 0), .int (ta 5105), .int (ta 5106), .int z, .int (ta 5108), .int (ta 5109)])) = mj_HP sg lm (mj_us ta 5107 z) ro tl := rfl
theorem hs_51_8 (z : Int32) : (mj_HP sg lm ta ro tl).set 51 (.inr (6, [.ref 46, .ref 52, .ref 53, mj_rf (ro 5103 0), mj_rf (ro 5104 0), .int (ta 5105), .int (ta 5106), .int (ta 5107), .int z, .int (ta 5109)])) = mj_HP sg lm (mj_us ta 5108 z) ro tl := rfl
theorem hs_51_9 (z : Int32) : (mj_HP sg lm ta ro tl).set 51 (.inr (6, [.ref 46, .ref 52, .ref 53, mj_rf (ro 5103 0), mj_rf (ro 5104 0), .int (ta 5105), .int (ta 5106), .int (ta 5107), .int (ta 5108), .int z])) = mj_HP sg lm (mj_us ta 5109 z) ro tl := rfl
theorem hg_52 : (mj_HP sg lm ta ro tl)[52]? = some (.inl (0, 300, .inl (sg 52))) := rfl
theorem hs_52 (f : Nat → Int32) : (mj_HP sg lm ta ro tl).set 52 (.inl (0, 300, .inl f)) = mj_HP (mj_us sg 52 f) lm ta ro tl := rfl
theorem hg_53 : (mj_HP sg lm ta ro tl)[53]? = some (.inl (0, 72, .inl (sg 53))) := rfl
theorem hs_53 (f : Nat → Int32) : (mj_HP sg lm ta ro tl).set 53 (.inl (0, 72, .inl f)) = mj_HP (mj_us sg 53 f) lm ta ro tl := rfl
theorem hg_54 : (mj_HP sg lm ta ro tl)[54]? = some (.inr (5, [.ref 55, .ref 56, .ref 57, .ref 58, .int (ta 5404), .int (ta 5405)])) := rfl
theorem hs_54_4 (z : Int32) : (mj_HP sg lm ta ro tl).set 54 (.inr (5, [.ref 55, .ref 56, .ref 57, .ref 58, .int z, .int (ta 5405)])) = mj_HP sg lm (mj_us ta 5404 z) ro tl := rfl
theorem hs_54_5 (z : Int32) : (mj_HP sg lm ta ro tl).set 54 (.inr (5, [.ref 55, .ref 56, .ref 57, .ref 58, .int (ta 5404), .int z])) = mj_HP sg lm (mj_us ta 5405 z) ro tl := rfl
theorem hg_55 : (mj_HP sg lm ta ro tl)[55]? = some (.inl (0, 9, .inl (sg 55))) := rfl
theorem hs_55 (f : Nat → Int32) : (mj_HP sg lm ta ro tl).set 55 (.inl (0, 9, .inl f)) = mj_HP (mj_us sg 55 f) lm ta ro tl := rfl
theorem hg_56 : (mj_HP sg lm ta ro tl)[56]? = some (.inl (0, 189, .inl (sg 56))) := rfl
theorem hs_56 (f : Nat → Int32) : (mj_HP sg lm ta ro tl).set 56 (.inl (0, 189, .inl f)) = mj_HP (mj_us sg 56 f) lm ta ro tl := rfl
theorem hg_57 : (mj_HP sg lm ta ro tl)[57]? = some (.inl (0, 189, .inl (sg 57))) := rfl
theorem hs_57 (f : Nat → Int32) : (mj_HP sg lm ta ro tl).set 57 (.inl (0, 189, .inl f)) = mj_HP (mj_us sg 57 f) lm ta ro tl := rfl
theorem hg_58 : (mj_HP sg lm ta ro tl)[58]? = some (.inl (3, 9, .inr (.inl (lm 58)))) := rfl
theorem hs_58 (f : Nat → Int64) : (mj_HP sg lm ta ro tl).set 58 (.inl (3, 9, .inr (.inl f))) = mj_HP sg (mj_us lm 58 f) ta ro tl := rfl
theorem hg_59 : (mj_HP sg lm ta ro tl)[59]? = some (.inr (12, [.ref 60, .ref 61, .ref 62, .ref 63, .int (ta 5904), .int (ta 5905), .int (ta 5906), .int (ta 5907), .int (ta 5908), .int (ta 5909), .int (ta 5910), .int (ta 5911), .int (ta 5912), .int (ta 5913), .int (ta 5914), .ref 64, .int (ta 5916), .int (ta 5917), .int (ta 5918), .int (ta 5919), .ref 65, .ref 66, .ref 67, .int (ta 5923), .int (ta 5924), .ref 68, .ref 69, .ref 70, .ref 71, .ref 72, .ref 73, .ref 74, .ref 75])) := rfl
theorem hs_59_4 (z : Int32) : (mj_HP sg lm ta ro tl).set 59 (.inr (12, [.ref 60, .ref 61, .ref 62, .ref 63, .int z, .int (ta 5905), .int (ta 5906), .int (ta 5907), .int (ta 5908), .int (ta 5909), .int (ta 5910), .int (ta 5911), .int (ta 5912), .int (ta 5913), .int (ta 5914), .ref 64, .int (ta 5916), .int (ta 5917), .int (ta 5918), .int (ta 5919), .ref 65, .ref 66, .ref 67, .int (ta 5923), .int (ta 5924), .ref 68, .ref 69, .ref 70, .ref 71, .ref 72, .ref 73, .ref 74, .ref 75])) = mj_HP sg lm (mj_us ta 5904 z) ro tl := rfl
theorem hs_59_5 (z : Int32) : (mj_HP sg lm ta ro tl).set 59 (.inr (12, [.ref 60, .ref 61, .ref 62, .ref 63, .int (ta 5904), .int z, .int (ta 5906), .int (ta 5907), .int (ta 5908), .int (ta 5909), .int (ta 5910), .int (ta 5911), .int (ta 5912), .int (ta 5913), .int (ta 5914), .ref 64, .int (ta 5916), .int (ta 5917), .int (ta 5918), .int (ta 5919), .ref 65, .ref 66, .ref 67, .int (ta 5923), .int (ta 5924), .ref 68, .ref 69, .ref 70, .ref 71, .ref 72, .ref 73, .ref 74, .ref 75])) = mj_HP sg lm (mj_us ta 5905 z) ro tl := rfl
theorem hs_59_6 (z : Int32) : (mj_HP sg lm ta ro tl).set 59 (.inr (12, [.ref 60, .ref 61, .ref 62, .ref 63, .int (ta 5904), .int (ta 5905), .int z, .int (ta 5907), .int (ta 5908), .int (ta 5909), .int (ta 5910), .int (ta 5911), .int (ta 5912), .int (ta 5913), .int (ta 5914), .ref 64, .int (ta 5916), .int (ta 5917), .int (ta 5918), .int (ta 5919), .ref 65, .ref 66, .ref 67, .int (ta 5923), .int (ta 5924), .ref 68, .ref 69, .ref 70, .ref 71, .ref 72, .ref 73, .ref 74, .ref 75])) = mj_HP sg lm (mj_us ta 5906 z) ro tl := rfl
theorem hs_59_7 (z : Int32) : (mj_HP sg lm ta ro tl).set 59 (.inr (12, [.ref 60, .ref 61, .ref 62, .ref 63, .int (ta 5904), .int (ta 5905), .int (ta 5906), .int z, .int (ta 5908), .int (ta 5909), .int (ta 5910), .int (ta 5911), .int (ta 5912), .int (ta 5913), .int (ta 5914), .ref 64, .int (ta 5916), .int (ta 5917), .int (ta 5918), .int (ta 5919), .ref 65, .ref 66, .ref 67, .int (ta 5923), .int (ta 5924), .ref 68, .ref 69, .ref 70, .ref 71, .ref 72, .ref 73, .ref 74, .ref 75])) = mj_HP sg lm (mj_us ta 5907 z) ro tl := rfl
theorem hs_59_8 (z : Int32) : (mj_HP sg lm ta ro tl).set 59 (.inr (12, [.ref 60, .ref 61, .ref 62, .ref 63, .int (ta 5904), .int (ta 5905), .int (ta 5906), .int (ta 5907), .int z, .int (ta 5909), .int (ta 5910), .int (ta 5911), .int (ta 5912), .int (ta 5913), .int (ta 5914), .ref 64, .int (ta 5916), .int (ta 5917), .int (ta 5918), .int (ta 5919), .ref 65, .ref 66, .ref 67, .int (ta 5923), .int (ta 5924), .ref 68, .ref 69, .ref 70, .ref 71, .ref 72, .ref 73, .ref 74, .ref 75])) = mj_HP sg lm (mj_us ta 5908 z) ro tl := rfl
theorem hs_59_9 (z : Int32) : (mj_HP sg lm ta ro tl).set 59 (.inr (12, [.ref 60, .ref 61, .ref 62, .ref 63, .int (ta 5904), .int (ta 5905), .int (ta 5906), .int (ta 5907), .int (ta 5908), .int z, .int (ta 5910), .int (ta 5911), .int (ta 5912), .int (ta 5913), .int (ta 5914), .ref 64, .int (ta 5916), .int (ta 5917), .int (ta 5918), .int (ta 5919), .ref 65, .ref 66, .ref 67, .int (ta 5923), .int (ta 5924), .ref 68, .ref 69, .ref 70, .ref 71, .ref 72, .ref 73, .ref 74, .ref 75])) = mj_HP sg lm (mj_us ta 5909 z) ro tl := rfl
theorem hs_59_10 (z : Int32) : (mj_HP sg lm ta ro tl).set 59 (.inr (12, [.ref 60, .ref 61, .ref 62, .ref 63, .int (ta 5904), .int (ta 5905), .int (ta 5906), .int (ta 5907), .int (ta 5908), .int (ta 5909), .int z, .int (ta 5911), .int (ta 5912), .int (ta 5913), .int (ta 5914), .ref 64, .int (ta 5916), .int (ta 5917), .int (ta 5918), .int (ta 5919), .ref 65, .ref 66, .ref 67, .int (ta 5923), .int (ta 5924), .ref 68, .ref 69, .ref 70, .ref 71, .ref 72, .ref 73, .ref 74, .ref 75])) = mj_HP sg lm (mj_us ta 5910 z) ro tl := rfl
theorem hs_59_11 (z : Int32) : (mj_HP sg lm ta ro tl).set 59 (.inr (12, [.ref 60, .ref 61, .ref 62, .ref 63, .int (ta 5904), .int (ta 5905), .int (ta 5906), .int (ta 5907), .int (ta 5908), .int (ta 5909), .int (ta 5910), .int z, .int (ta 5912), .int (ta 5913), .int (ta 5914), .ref 64, .int (ta 5916), .int (ta 5917), .int (ta 5918), .int (ta 5919), .ref 65, .ref 66, .ref 67, .int (ta 5923), .int (ta 5924), .ref 68, .ref 69, .ref 70, .ref 71, .ref 72, .ref 73, .ref 74, .ref 75])) = mj_HP sg lm (mj_us ta 5911 z) ro tl := rfl
theorem hs_59_12 (z : Int32) : (mj_HP sg lm ta ro tl).set 59 (.inr (12, [.ref 60, .ref 61, .ref 62, .ref 63, .int (ta 5904), .int (ta 5905), .int (ta 5906), .int (ta 5907), .int (ta 5908), .int (ta 5909), .int (ta 5910), .int (ta 5911), .int z, .int (ta 5913), .int (ta 5914), .ref 64, .int (ta 5916), .int (ta 5917), .int (ta 5918), .int (ta 5919), .ref 65, .ref 66, .ref 67, .int (ta 5923), .int (ta 5924), .ref 68, .ref 69, .ref 70, .ref 71, .ref 72, .ref 73, .ref 74, .ref 75])) = mj_HP sg lm (mj_us ta 5912 z) ro tl := rfl
theorem hs_59_13 (z : Int32) : (mj_HP sg lm ta ro tl).set 59 (.inr (12, [.ref 60, .ref 61, .ref 62, .ref 63, .int (ta 5904), .int (ta 5905), .int (ta 5906), .int (ta 5907), .int (ta 5908), .int (ta 5909), .int (ta 5910), .int (ta 5911), .int (ta 5912), .int z, .int (ta 5914), .ref 64, .int (ta 5916), .int (ta 5917), .int (ta 5918), .int (ta 5919), .ref 65, .ref 66, .ref 67, .int (ta 5923), .int (ta 5924), .ref 68, .ref 69, .ref 70, .ref 71, .ref 72, .ref 73, .ref 74, .ref 75])) = mj_HP sg lm (mj_us ta 5913 z) ro tl := rfl
theorem hs_59_14 (z : Int32) : (mj_HP sg lm ta ro tl).set 59 (.inr (12, [.ref 60, .ref 61, .ref 62, .ref 63, .int (ta 5904), .int (ta 5905), .int (ta 5906), .int (ta 5907), .int (ta 5908), .int (ta 5909), .int (ta 5910), .int (ta 5911), .int (ta 5912), .int (ta 5913), .int z, .ref 64, .int (ta 5916), .int (ta 5917), .int (ta 5918), .int (ta 5919), .ref 65, .ref 66, .ref 67, .int (ta 5923), .int (ta 5924), .ref 68, .ref 69, .ref 70, .ref 71, .ref 72, .ref 73, .ref 74, .ref 75])) = mj_HP sg lm (mj_us ta 5914 z) ro tl := rfl
theorem hs_59_16 (z : Int32) : (mj_HP sg lm ta ro tl).set 59 (.inr (12, [.ref 60, .ref 61, .ref 62, .ref 63, .int (ta 5904), .int (ta 5905), .int (ta 5906), .int (ta 5907), .int (ta 5908), .int (ta 5909), .int (ta 5910), .int (ta 5911), .int (ta 5912), .int (ta 5913), .int (ta 5914), .ref 64, .int z, .int (ta 5917), .int (ta 5918), .int (ta 5919), .ref 65, .ref 66, .ref 67, .int (ta 5923), .int (ta 5924), .ref 68, .ref 69, .ref 70, .ref 71, .ref 72, .ref 73, .ref 74, .ref 75])) = mj_HP sg lm (mj_us ta 5916 z) ro tl := rfl
theorem hs_59_17 (z : Int32) : (mj_HP sg lm ta ro tl).set 59 (.inr (12, [.ref 60, .ref 61, .ref 62, .ref 63, .int (ta 5904), .int (ta 5905), .int (ta 5906), .int (ta 5907), .int (ta 5908), .int (ta 5909), .int (ta 5910), .int (ta 5911), .int (ta 5912), .int (ta 5913), .int (ta 5914), .ref 64, .int (ta 5916), .int z, .int (ta 5918), .int (ta 5919), .ref 65, .ref 66, .ref 67, .int (ta 5923), .int (ta 5924), .ref 68, .ref 69, .ref 70, .ref 71, .ref 72, .ref 73, .ref 74, .ref 75])) = mj_HP sg lm (mj_us ta 5917 z) ro tl := rfl
theorem hs_59_18 (z : Int32) : (mj_HP sg lm ta ro tl).set 59 (.inr (12, [.ref 60, .ref 61, .ref 62, .ref 63, .int (ta 5904), .int (ta 5905), .int (ta 5906), .int (ta 5907), .int (ta 5908), .int (ta 5909), .int (ta 5910), .int (ta 5911), .int (ta 5912), .int (ta 5913), .int (ta 5914), .ref 64, .int (ta 5916), .int (ta 5917), .int z, .int (ta 5919), .ref 65, .ref 66, .ref 67, .int (ta 5923), .int (ta 5924), .ref 68, .ref 69, .ref 70, .ref 71, .ref 72, .ref 73, .ref 74, .ref 75])) = mj_HP sg lm (mj_us ta 5918 z) ro tl := rfl
theorem hs_59_19 (z : Int32) : (mj_HP sg lm ta ro tl).set 59 (.inr (12, [.ref 60, .ref 61, .ref 62, .ref 63, .int (ta 5904), .int (ta 5905), .int (ta 5906), .int (ta 5907), .int (ta 5908), .int (ta 5909), .int (ta 5910), .int (ta 5911), .int (ta 5912), .int (ta 5913), .int (ta 5914), .ref 64, .int (ta 5916), .int (ta 5917), .int (ta 5918), .int z, .ref 65, .ref 66, .ref 67, .int (ta 5923), .int (ta 5924), .ref 68, .ref 69, .ref 70, .ref 71, .ref 72, .ref 73, .ref 74, .ref 75])) = mj_HP sg lm (mj_us ta 5919 z) ro tl := rfl
theorem hs_59_23 (z : Int32) : (mj_HP sg lm ta ro tl).set 59 (.inr (12, [.ref 60, .ref 61, .ref 62, .ref 63, .int (ta 5904), .int (ta 5905), .int (ta 5906), .int (ta 5907), .int (ta 5908), .int (ta 5909), .int (ta 5910), .int (ta 5911), .int (ta 5912), .int (ta 5913), .int (ta 5914), .ref 64, .int (ta 5916), .int (ta 5917), .int (ta 5918), .int (ta 5919), .ref 65, .ref 66, .ref 67, .int z, .int (ta 5924), .ref 68, .ref 69, .ref 70, .ref 71, .ref 72, .ref 73, .ref 74, .ref 75])) = mj_HP sg lm (mj_us ta 5923 z) ro tl := rfl
theorem hs_59_24 (z : Int32) : (mj_HP sg lm ta ro tl).set 59 (.inr (12, [.ref 60, .ref 61, .ref 62, .ref 63, .int (ta 5904), .int (ta 5905), .int (ta 5906), .int (ta 5907), .int (ta 5908), .int (ta 5909), .int (ta 5910), .int (ta 5911), .int (ta 5912), .int (ta 5913), .int (ta 5914), .ref 64, .int (ta 5916), .int (ta 5917), .int (ta 5918), .int (ta 5919), .ref 65, .ref 66, .ref 67, .int (ta 5923), .int z, .ref 68, .ref 69, .ref 70, .ref 71, .ref 72, .ref 73, .ref 74, .ref 75])) = mj_HP sg lm (mj_us ta 5924 z) ro tl := rfl
theorem hg_60 : (mj_HP sg lm ta ro tl)[60]? = some (.inl (0, 1763, .inl (sg 60))) := rfl
theorem hs_60 (f : Nat → Int32) : (mj_HP sg lm ta ro tl).set 60 (.inl (0, 1763, .inl f)) = mj_HP (mj_us sg 60 f) lm ta ro tl := rfl
theorem hg_61 : (mj_HP sg lm ta ro tl)[61]? = some (.inl (0, 1763, .inl (sg 61))) := rfl
theorem hs_61 (f : Nat → Int32) : (mj_HP sg lm ta ro tl).set 61 (.inl (0, 1763, .inl f)) = mj_HP (mj_us sg 61 f) lm ta ro tl := rfl
theorem hg_62 : (mj_HP sg lm ta ro tl)[62]? = some (.inl (0, 2724, .inl (sg 62))) := rfl
theorem hs_62 (f : Nat → Int32) : (mj_HP sg lm ta ro tl).set 62 (.inl (0, 2724, .inl f)) = mj_HP (mj_us sg 62 f) lm ta ro tl := rfl
theorem hg_63 : (mj_HP sg lm ta ro tl)[63]? = some (.inl (0, 300, .inl (sg 63))) := rfl
theorem hs_63 (f : Nat → Int32) : (mj_HP sg lm ta ro tl).set 63 (.inl (0, 300, .inl f)) = mj_HP (mj_us sg 63 f) lm ta ro tl := rfl
theorem hg_64 : (mj_HP sg lm ta ro tl)[64]? = some (.inl (0, 160, .inl (sg 64))) := rfl
theorem hs_64 (f : Nat → Int32) : (mj_HP sg lm ta ro tl).set 64 (.inl (0, 160, .inl f)) = mj_HP (mj_us sg 64 f) lm ta ro tl := rfl
theorem hg_65 : (mj_HP sg lm ta ro tl)[65]? = some (.inl (0, 8, .inl (sg 65))) := rfl
theorem hs_65 (f : Nat → Int32) : (mj_HP sg lm ta ro tl).set 65 (.inl (0, 8, .inl f)) = mj_HP (mj_us sg 65 f) lm ta ro tl := rfl
theorem hg_66 : (mj_HP sg lm ta ro tl)[66]? = some (.inl (3, 330, .inr (.inl (lm 66)))) := rfl
theorem hs_66 (f : Nat → Int64) : (mj_HP sg lm ta ro tl).set 66 (.inl (3, 330, .inr (.inl f))) = mj_HP sg (mj_us lm 66 f) ta ro tl := rfl
theorem hg_67 : (mj_HP sg lm ta ro tl)[67]? = some (.inl (2, 330, .inl (sg 67))) := rfl
theorem hs_67 (f : Nat → Int32) : (mj_HP sg lm ta ro tl).set 67 (.inl (2, 330, .inl f)) = mj_HP (mj_us sg 67 f) lm ta ro tl := rfl
theorem hg_68 : (mj_HP sg lm ta ro tl)[68]? = some (.inl (0, 31, .inl (sg 68))) := rfl
theorem hs_68 (f : Nat → Int32) : (mj_HP sg lm ta ro tl).set 68 (.inl (0, 31, .inl f)) = mj_HP (mj_us sg 68 f) lm ta ro tl := rfl
theorem hg_69 : (mj_HP sg lm ta ro tl)[69]? = some (.inl (0, 8, .inl (sg 69))) := rfl
theorem hs_69 (f : Nat → Int32) : (mj_HP sg lm ta ro tl).set 69 (.inl (0, 8, .inl f)) = mj_HP (mj_us sg 69 f) lm ta ro tl := rfl
theorem hg_70 : (mj_HP sg lm ta ro tl)[70]? = some (.inl (0, 49, .inl (sg 70))) := rfl
theorem hs_70 (f : Nat → Int32) : (mj_HP sg lm ta ro tl).set 70 (.inl (0, 49, .inl f)) = mj_HP (mj_us sg 70 f) lm ta ro tl := rfl
theorem hg_71 : (mj_HP sg lm ta ro tl)[71]? = some (.inl (0, 144, .inl (sg 71))) := rfl
theorem hs_71 (f : Nat → Int32) : (mj_HP sg lm ta ro tl).set 71 (.inl (0, 144, .inl f)) = mj_HP (mj_us sg 71 f) lm ta ro tl := rfl
theorem hg_72 : (mj_HP sg lm ta ro tl)[72]? = some (.inl (0, 8, .inl (sg 72))) := rfl
theorem hs_72 (f : Nat → Int32) : (mj_HP sg lm ta ro tl).set 72 (.inl (0, 8, .inl f)) = mj_HP (mj_us sg 72 f) lm ta ro tl := rfl
theorem hg_73 : (mj_HP sg lm ta ro tl)[73]? = some (.inl (0, 9, .inl (sg 73))) := rfl
theorem hs_73 (f : Nat → Int32) : (mj_HP sg lm ta ro tl).set 73 (.inl (0, 9, .inl f)) = mj_HP (mj_us sg 73 f) lm ta ro tl := rfl
theorem hg_74 : (mj_HP sg lm ta ro tl)[74]? = some (.inl (0, 3969, .inl (sg 74))) := rfl
theorem hs_74 (f : Nat → Int32) : (mj_HP sg lm ta ro tl).set 74 (.inl (0, 3969, .inl f)) = mj_HP (mj_us sg 74 f) lm ta ro tl := rfl
theorem hg_75 : (mj_HP sg lm ta ro tl)[75]? = some (.inl (3, 9, .inr (.inl (lm 75)))) := rfl
theorem hs_75 (f : Nat → Int64) : (mj_HP sg lm ta ro tl).set 75 (.inl (3, 9, .inr (.inl f))) = mj_HP sg (mj_us lm 75 f) ta ro tl := rfl
end MJP
