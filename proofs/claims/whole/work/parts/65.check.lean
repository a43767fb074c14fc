/-! the check: each block's items against the bytes of the method; the tables' words by their numbers -/
def mj_lk (own k u m : Nat) : Bool := mj_wd u 0 own k m || mj_wd u 1 own k m
def mj_fl (own k u c f : Nat) : Bool := decide (f < 100) && (mj_wd u 2 own k (100 * c + f) || mj_wd u 3 own k (100 * c + f))
def mj_cst (own : Nat) (k u : Nat) (j : Instr) (len : Nat) (v : Value) : Bool := match v with
  | .int x => match j with
    | .iconst n => len == 1 && decide (Int32.ofInt n = x)
    | .bipush n => len == 2 && decide ((Int8.ofInt n).toInt32 = x)
    | .sipush n => len == 3 && decide ((Int16.ofInt n).toInt32 = x)
    | .ldc k' => k' == k && len == 2 && mj_wd u 11 own k x.toUInt32.toNat
    | .ldc_w k' => k' == k && len == 3 && mj_wd u 11 own k x.toUInt32.toNat
    | .getstatic k' => k' == k && len == 3 && decide (x = 1) && mj_wd u 19 own k 0
    | _ => false
  | .long x => match j with
    | .lconst n => len == 1 && decide (Int64.ofNat (n : Nat) = x)
    | .ldc2_w k' => k' == k && len == 3 && mj_wd u 12 own k x.toUInt64.toNat
    | _ => false
  | .null => match j with
    | .aconst_null => len == 1
    | _ => false
  | .retAddr e => match j with
    | .ldc k' => k' == k && len == 2 && own == 8 && ((e == 2 && k == 68) || (e == 3 && k == 75))
    | .getstatic k' => k' == k && len == 3 && e == 1 && mj_wd u 17 own k 0
    | _ => false
  | .float _ => match j with
    | .getstatic k' => k' == k && len == 3 && mj_wd u 20 own k 0
    | _ => false
  | _ => false
def mj_ba (b : Nat) : Nat := match b with
  | 4 => 1
  | 5 => 5
  | _ => 2
def mj_par (m : Nat) : Nat × Nat × Nat × Nat := mj_ps.getD m (0, 0, 0, 0)
def mj_tz (t : Nat) (at_ : ArrayType) : Bool := match t, at_ with
  | 0, .int => true
  | 1, .char => true
  | 2, .boolean => true
  | 3, .long => true
  | _, _ => false
/-- one item against the instruction that the bytes have there -/
def mj_ci (own : Nat) (ini : Bool) (rt : Option FieldType) (sp : Nat → Nat) (pc : Nat) (j : Instr) (len : Nat) (i : Instr) (x : List Nat) (v : Value) : Bool := match i with
  | .ldc k => mj_cst own k (x.getD 0 0) j len v
  | .iload k => match j with
    | .iload k' => k' == k && len == 2
    | .iload_n f => f.val == k && len == 1
    | _ => false
  | .lload k => match j with
    | .lload k' => k' == k && len == 2
    | .lload_n f => f.val == k && len == 1
    | _ => false
  | .aload k => match j with
    | .aload k' => k' == k && len == 2
    | .aload_n f => f.val == k && len == 1
    | _ => false
  | .istore k => match j with
    | .istore k' => k' == k && len == 2
    | .istore_n f => f.val == k && len == 1
    | _ => false
  | .lstore k => match j with
    | .lstore k' => k' == k && len == 2
    | .lstore_n f => f.val == k && len == 1
    | _ => false
  | .astore k => match j with
    | .astore k' => k' == k && len == 2
    | .astore_n f => f.val == k && len == 1
    | _ => false
  | .iinc k _ => match j with
    | .iinc k' n => k' == k && len == 3 && decide (v = .int (Int32.ofInt n))
    | _ => false
  | .goto _ => match j with
    | .goto off => len == 3 && decide ((pc : Int) + off = (sp (x.getD 0 0) : Int))
    | _ => false
  | .ifCond c _ => match j with
    | .ifCond c' off => len == 3 && decide (c' = c) && decide ((pc : Int) + off = (sp (x.getD 0 0) : Int)) && decide (sp (x.getD 1 0) = pc + 3)
    | _ => false
  | .if_icmp c _ => match j with
    | .if_icmp c' off => len == 3 && decide (c' = c) && decide ((pc : Int) + off = (sp (x.getD 0 0) : Int)) && decide (sp (x.getD 1 0) = pc + 3)
    | _ => false
  | .ifnull _ => match j with
    | .ifnull off => len == 3 && decide ((pc : Int) + off = (sp (x.getD 0 0) : Int)) && decide (sp (x.getD 1 0) = pc + 3)
    | _ => false
  | .ifnonnull _ => match j with
    | .ifnonnull off => len == 3 && decide ((pc : Int) + off = (sp (x.getD 0 0) : Int)) && decide (sp (x.getD 1 0) = pc + 3)
    | _ => false
  | .tableswitch _ lo hi _ => match j with
    | .tableswitch d lo' hi' offs => decide (lo' = lo) && decide (hi' = hi) && decide ((offs.size : Int) = hi - lo + 1) && decide ((pc : Int) + d = (sp (x.getD 0 0) : Int)) && (List.range offs.size).all (fun i => decide ((offs[i]?).map (fun off => (pc : Int) + off) = some (sp (x.getD (i + 1) 0) : Int)))
    | _ => false
  | .lookupswitch _ ps => match j with
    | .lookupswitch d ps' => (ps'.toList.zip (ps'.toList.drop 1)).all (fun (a, next) => a.1 < next.1) && decide (ps'.toList.map (fun q => q.1) = ps.toList.map (fun q => q.1)) && decide ((pc : Int) + d = (sp (x.getD 0 0) : Int)) && (List.range ps'.toList.length).all (fun i => decide ((ps'.toList[i]?).map (fun q => (pc : Int) + q.2) = some (sp (x.getD (i + 1) 0) : Int)))
    | _ => false
  | .ireturn => decide (j = .ireturn) && len == 1 && ((decide (rt = some .int) && decide (x = [])) || (decide (rt = some .boolean) && decide (x = [1])) || (decide (rt = some .char) && decide (x = [2])) || (decide (rt = some .byte) && decide (x = [3])))
  | .lreturn => decide (j = .lreturn) && len == 1 && decide (rt = some .long)
  | .areturn => decide (j = .areturn) && len == 1 && (match rt with
    | some (.object _) => true
    | some (.array _) => true
    | _ => false)
  | .return_ => decide (j = .return_) && len == 1 && decide (rt = none)
  | .aastore => decide (j = .aastore) && len == 1 && x.getD 0 0 == 9
  | .newarray a => match j with
    | .newarray a' => decide (a' = a) && len == 2 && mj_tz (x.getD 0 0) a && mj_wd (x.getD 1 0) 15 0 0 (x.getD 0 0)
    | _ => false
  | .anewarray k => match j with
    | .anewarray k' => k' == k && len == 3 && mj_wd (x.getD 1 0) 4 own k 9 && mj_wd (x.getD 2 0) 16 0 0 0
    | _ => false
  | .new k => match j with
    | .new k' => k' == k && len == 3 && decide (x.getD 0 0 < 13) && mj_wd (x.getD 1 0) 4 own k (x.getD 0 0)
    | _ => false
  | .getfield k => match j with
    | .getfield k' => k' == k && len == 3 && if x.getD 0 0 = 16 then (x.getD 1 0 == 0 && mj_wd (x.getD 2 0) 21 own k 0) || (x.getD 1 0 == 1 && mj_wd (x.getD 2 0) 22 own k 0) else decide (x.getD 0 0 < 13) && decide (x.getD 1 0 < (mj_fk (x.getD 0 0)).length) && mj_fl own k (x.getD 2 0) (x.getD 0 0) (x.getD 1 0)
    | _ => false
  | .putfield k => match j with
    | .putfield k' => k' == k && len == 3 && decide (x.getD 0 0 < 13) && decide (x.getD 1 0 < (mj_fk (x.getD 0 0)).length) && mj_wd (x.getD 3 0) 2 own k (100 * x.getD 0 0 + x.getD 1 0) && decide (x.getD 1 0 < 100)
      && (match (mj_fk (x.getD 0 0))[x.getD 1 0]? with
        | some q => q.2 == x.getD 2 0 && (q.1 == false || (ini && x.getD 0 0 == own))
        | none => false)
    | _ => false
  | .invokevirtual k => match j with
    | .invokevirtual k' => k' == k && len == 3 && decide (x.getD 0 0 < mj_n) && mj_lk own k (x.getD 3 0) (x.getD 0 0) && (mj_meth (x.getD 0 0)).1.2.2.2 == false && x.getD 1 0 == (mj_dsc (mj_meth (x.getD 0 0))).2 + 1 && x.getD 2 0 == (mj_meth (x.getD 0 0)).1.1 && mj_ini (x.getD 0 0) == false
    | _ => false
  | .invokespecial k => match j with
    | .invokespecial k' => k' == k && len == 3 && decide (x.getD 0 0 < mj_n) && mj_lk own k (x.getD 3 0) (x.getD 0 0) && (mj_meth (x.getD 0 0)).1.2.2.2 == false && x.getD 1 0 == (mj_dsc (mj_meth (x.getD 0 0))).2 + 1 && mj_ini (x.getD 0 0) == true && (match (mj_meth (x.getD 0 0)).2.2.2 with
        | none => true
        | some _ => false)
    | _ => false
  | .invokestatic k => match j with
    | .invokestatic k' => k' == k && len == 3 && decide (x.getD 0 0 < mj_n) && mj_lk own k (x.getD 3 0) (x.getD 0 0) && (mj_meth (x.getD 0 0)).1.2.2.2 == true && x.getD 1 0 == (mj_dsc (mj_meth (x.getD 0 0))).2
    | _ => false
  | .invokedynamic k => len == 3 && x.getD 1 0 == mj_ba (x.getD 0 0) && decide (x.getD 0 0 < 6) && mj_wd (x.getD 2 0) 13 own k (x.getD 0 0) && decide (j = if x.getD 0 0 = 4 then .invokevirtual k else .invokestatic k)
  | .checkcast k => match j with
    | .checkcast k' => k' == k && len == 3 && mj_wd (x.getD 0 0) 23 own k 0
    | _ => false
  | .athrow => len == 3 && decide (j = .invokespecial (x.getD 0 0)) && mj_wd (x.getD 1 0) 14 own (x.getD 0 0) 0
  | i => decide (j = i) && len == 1
def mj_ck (own : Nat) (ini : Bool) (rt : Option FieldType) (sp : Nat → Nat) (cc : ByteArray) : List mj_I → Nat → Bool
  | [], _ => true
  | (i, x, v) :: is, pc => match i with
    | .nop => mj_ck own ini rt sp cc is pc
    | .jsr _ => decide (sp (x.getD 0 0) = pc)
    | i => match decode cc pc with
      | .ok (j, len) => mj_ci own ini rt sp pc j len i x v && mj_ck own ini rt sp cc is (pc + len)
      | .error _ => false
/-- a method's blocks are its bytes' -/
def mj_mck (m : Nat) : Bool := (mj_bs.getD m []).all (fun b => mj_ck (mj_meth m).1.1 (mj_ini m) (mj_meth m).2.2.2 (mj_sp m) (mj_meth m).2.1 b.2 b.1) && decide (mj_sp m 0 = 0)
/-- what a call of it wants of the tables -/
def mj_mfc (m : Nat) : Bool := mj_wd (mj_par m).1 5 0 0 m
  && (if (mj_meth m).1.2.2.2 = true then mj_wd (mj_par m).2.1 6 0 0 m else mj_wd (mj_par m).2.1 7 0 0 m && (mj_ini m || mj_wd (mj_par m).2.2.1 8 0 0 m))
  && mj_wd (mj_par m).2.2.2 9 (mj_meth m).1.1 0 0 && decide ((mj_meth m).1.1 < 19) && decide ((mj_meth m).2.2.1 ≤ 24) && decide ((mj_meth m).1.2.2.1 < mj_ds.length)
theorem mj_rng {P : Nat → Bool} {a n m : Nat} (h : (List.range' a n).all P = true) (h1 : a ≤ m) (h2 : m < a + n) : P m = true := List.all_eq_true.mp h m (List.mem_range'_1.mpr ⟨h1, h2⟩)
set_option maxRecDepth 100000 in
theorem mj_k_0 : (List.range' 0 12).all mj_mck = true := by decide +kernel
set_option maxRecDepth 100000 in
theorem mj_k_12 : (List.range' 12 12).all mj_mck = true := by decide +kernel
set_option maxRecDepth 100000 in
theorem mj_k_24 : (List.range' 24 12).all mj_mck = true := by decide +kernel
set_option maxRecDepth 100000 in
theorem mj_k_36 : (List.range' 36 12).all mj_mck = true := by decide +kernel
set_option maxRecDepth 100000 in
theorem mj_k_48 : (List.range' 48 4).all mj_mck = true := by decide +kernel
set_option maxRecDepth 100000 in
theorem mj_k_52 : (List.range' 52 12).all mj_mck = true := by decide +kernel
set_option maxRecDepth 100000 in
theorem mj_k_64 : (List.range' 64 7).all mj_mck = true := by decide +kernel
set_option maxRecDepth 100000 in
theorem mj_k_71 : (List.range' 71 12).all mj_mck = true := by decide +kernel
set_option maxRecDepth 100000 in
theorem mj_k_83 : (List.range' 83 2).all mj_mck = true := by decide +kernel
set_option maxRecDepth 100000 in
theorem mj_k_85 : (List.range' 85 10).all mj_mck = true := by decide +kernel
set_option maxRecDepth 100000 in
theorem mj_k_95 : (List.range' 95 12).all mj_mck = true := by decide +kernel
set_option maxRecDepth 100000 in
theorem mj_k_107 : (List.range' 107 12).all mj_mck = true := by decide +kernel
set_option maxRecDepth 100000 in
theorem mj_k_119 : (List.range' 119 2).all mj_mck = true := by decide +kernel
set_option maxRecDepth 100000 in
theorem mj_k_121 : (List.range' 121 5).all mj_mck = true := by decide +kernel
set_option maxRecDepth 100000 in
theorem mj_k_126 : (List.range' 126 12).all mj_mck = true := by decide +kernel
set_option maxRecDepth 100000 in
theorem mj_k_138 : (List.range' 138 6).all mj_mck = true := by decide +kernel
set_option maxRecDepth 100000 in
theorem mj_k_144 : (List.range' 144 3).all mj_mck = true := by decide +kernel
set_option maxRecDepth 100000 in
theorem mj_k_147 : (List.range' 147 12).all mj_mck = true := by decide +kernel
set_option maxRecDepth 100000 in
theorem mj_k_159 : (List.range' 159 12).all mj_mck = true := by decide +kernel
set_option maxRecDepth 100000 in
theorem mj_k_171 : (List.range' 171 1).all mj_mck = true := by decide +kernel
set_option maxRecDepth 100000 in
theorem mj_k_172 : (List.range' 172 12).all mj_mck = true := by decide +kernel
set_option maxRecDepth 100000 in
theorem mj_k_184 : (List.range' 184 12).all mj_mck = true := by decide +kernel
set_option maxRecDepth 100000 in
theorem mj_k_196 : (List.range' 196 12).all mj_mck = true := by decide +kernel
set_option maxRecDepth 100000 in
theorem mj_k_208 : (List.range' 208 12).all mj_mck = true := by decide +kernel
set_option maxRecDepth 100000 in
theorem mj_k_220 : (List.range' 220 6).all mj_mck = true := by decide +kernel
