/-! THE SMALL MACHINE AND THE REAL ONE: what it is that a state of the one stands for a state of the other -/
def mj_sx (z : Nat) : Value := match z with
  | 0 => .null
  | q + 1 => .ref q
def mj_mv (as : List Nat) (X : Nat → Option Nat) (v : Value) : Option Value := match v with
  | .int x => some (.int x)
  | .float _ => (X 9).map mj_sx
  | .long x => some (.long x)
  | .null => some .null
  | .ref k => (as[k]?).map Value.ref
  | .retAddr k => (X k).map Value.ref
  | _ => none
def mj_SR (as : List Nat) (X : Nat → Option Nat) (st sw : List Value) : Prop := st.map (mj_mv as X) = sw.map some
def mj_LR (as : List Nat) (X : Nat → Option Nat) (loc : mj_L) (ls : Array Slot) : Prop := loc.length = ls.size ∧ lv_wf ls ∧ ∀ (k : Nat) (v : Value), mj_lget loc k = some v → ∃ w, mj_mv as X v = some w ∧ ls[k]? = some (.val w)
def mj_AR (as : List Nat) (a b : (Nat → Int32) ⊕ (Nat → Int64) ⊕ (Nat → UInt32) ⊕ (Nat → UInt64) ⊕ (Nat → Option Nat)) : Prop := match a, b with
  | .inl f, .inl g => f = g
  | .inr (.inl f), .inr (.inl g) => f = g
  | .inr (.inr (.inr (.inr f))), .inr (.inr (.inr (.inr g))) => ∀ j, match f j with
    | none => g j = none
    | some k => ∃ a, as[k]? = some a ∧ g j = some a
  | _, _ => False
def mj_CR (U : State) (as : List Nat) (X : Nat → Option Nat) (c : mj_C) (q : va_E) : Prop := match c, q with
  | .inl (t, a), .inl (cA, b) => a.1 = b.1 ∧ mj_AR as a.2 b.2 ∧ ArrOfT U cA (mj_ty t) ∧ va_RA U cA (mj_ty t)
  | .inr (ci, fs), .inr (cj, gs) => ci = cj ∧ mj_SR as X fs gs
  | _, _ => False
def mj_HR (U : State) (as : List Nat) (X : Nat → Option Nat) (h : mj_H) (ws : va_W) : Prop := ws.map (fun q => q.1) = as ∧ h.length = ws.length ∧ ∀ (k : Nat) (c : mj_C) (q : Nat × va_E), h[k]? = some c → ws[k]? = some q → mj_CR U as X c q.2
/-- the rows that lie outside: 0 of ints, 2 of bytes -/
def mj_te (t : Nat) : FieldType := match t with
  | 0 => .int
  | _ => .byte
def mj_XR (U : State) (X : Nat → Option Nat) (E : mj_E) (A : Nat → Prop) (H0 : Heap) : Prop := ∀ (k t n : Nat) (f : Nat → Int32), E k = some (t, n, f) → ∃ b, X k = some b ∧ va_T (mj_te t) b n (fun j => .int (f j)) A U H0
def mj_sz (c : mj_C) : Nat := match c with
  | .inl (_, a) => a.1
  | .inr (_, fs) => fs.length
def mj_siz : mj_H → Nat
  | [] => 0
  | c :: h => mj_sz c + mj_siz h
def mj_W (p : Program) (l : Launch) (e : Env) (R : Room) (s : State) (m : MethodId) (args : Array Value) (below : List Frame) (meth : Method) (c : Code) (Q : State → Prop) (D : va_G) (cl : List vw_C) (A : Nat → Prop) (H0 : Heap) (as0 : List Nat) (X : Nat → Option Nat) (n0 z0 : Nat) (pc : Nat) (loc : mj_L) (st : List Value) (h : mj_H) : Prop :=
  n0 ≤ h.length → z0 ≤ mj_siz h → ∀ (as : List Nat) (ls : Array Slot) (sw : List Value) (ws : va_W) (H : Heap) (locs : List Loc), as0 <+: as → mj_LR as X loc ls → mj_SR as X st sw → mj_HR s as X h ws → va_P D cl ws H → va_D A ws → va_S A H0 H locs →
    W p l e R s m args below meth c H locs (h.length - n0) (mj_siz h - z0) Q (F0 m pc ls sw)
theorem mj_SR_cons {as : List Nat} {X : Nat → Option Nat} {v : Value} {r sw : List Value} (h : mj_SR as X (v :: r) sw) : ∃ w r', sw = w :: r' ∧ mj_mv as X v = some w ∧ mj_SR as X r r' := by
  cases sw with
  | nil => simp [mj_SR] at h
  | cons w r' =>
    simp only [mj_SR, List.map_cons, List.cons.injEq] at h
    exact ⟨w, r', rfl, h.1, h.2⟩
theorem mj_SR_nil {as : List Nat} {X : Nat → Option Nat} {sw : List Value} (h : mj_SR as X [] sw) : sw = [] := by
  cases sw with
  | nil => rfl
  | cons w r' => simp [mj_SR] at h
theorem mj_SR_put {as : List Nat} {X : Nat → Option Nat} {v w : Value} {r r' : List Value} (h1 : mj_mv as X v = some w) (h2 : mj_SR as X r r') : mj_SR as X (v :: r) (w :: r') := by
  simp only [mj_SR, List.map_cons, List.cons.injEq]
  exact ⟨h1, h2⟩
theorem mj_SR_int {as : List Nat} {X : Nat → Option Nat} {x : Int32} {r sw : List Value} (h : mj_SR as X (.int x :: r) sw) : ∃ r', sw = .int x :: r' ∧ mj_SR as X r r' := by
  obtain ⟨w, r', rfl, h1, h2⟩ := mj_SR_cons h
  cases h1
  exact ⟨r', rfl, h2⟩
theorem mj_SR_long {as : List Nat} {X : Nat → Option Nat} {x : Int64} {r sw : List Value} (h : mj_SR as X (.long x :: r) sw) : ∃ r', sw = .long x :: r' ∧ mj_SR as X r r' := by
  obtain ⟨w, r', rfl, h1, h2⟩ := mj_SR_cons h
  cases h1
  exact ⟨r', rfl, h2⟩
theorem mj_SR_null {as : List Nat} {X : Nat → Option Nat} {r sw : List Value} (h : mj_SR as X (.null :: r) sw) : ∃ r', sw = .null :: r' ∧ mj_SR as X r r' := by
  obtain ⟨w, r', rfl, h1, h2⟩ := mj_SR_cons h
  cases h1
  exact ⟨r', rfl, h2⟩
theorem mj_SR_ref {as : List Nat} {X : Nat → Option Nat} {k : Nat} {r sw : List Value} (h : mj_SR as X (.ref k :: r) sw) : ∃ a r', sw = .ref a :: r' ∧ as[k]? = some a ∧ mj_SR as X r r' := by
  obtain ⟨w, r', rfl, h1, h2⟩ := mj_SR_cons h
  obtain ⟨a, h3, h4⟩ := Option.map_eq_some_iff.mp h1
  subst h4
  exact ⟨a, r', rfl, h3, h2⟩
theorem mj_SR_ext {as : List Nat} {X : Nat → Option Nat} {k : Nat} {r sw : List Value} (h : mj_SR as X (.retAddr k :: r) sw) : ∃ a r', sw = .ref a :: r' ∧ X k = some a ∧ mj_SR as X r r' := by
  obtain ⟨w, r', rfl, h1, h2⟩ := mj_SR_cons h
  obtain ⟨a, h3, h4⟩ := Option.map_eq_some_iff.mp h1
  subst h4
  exact ⟨a, r', rfl, h3, h2⟩
theorem mj_mv_c1 {as : List Nat} {X : Nat → Option Nat} {v w : Value} (h : mj_mv as X v = some w) (hc : mj_c1 v = true) : w.category = 1 := by
  cases v <;> simp [mj_c1] at hc
  · cases h; rfl
  · cases h; rfl
  · obtain ⟨a, -, h4⟩ := Option.map_eq_some_iff.mp h
    subst h4; rfl
  · obtain ⟨a, -, h4⟩ := Option.map_eq_some_iff.mp h
    subst h4; rfl
theorem mj_i2_inv {f : Int32 → Int32 → Option Value} {st st' : List Value} (h : mj_i2 f st = some st') : ∃ x y r v, st = .int y :: .int x :: r ∧ f x y = some v ∧ st' = v :: r := by
  unfold mj_i2 at h
  split at h
  · rename_i y x r
    split at h
    · rename_i v hv
      cases h
      exact ⟨x, y, r, v, rfl, hv, rfl⟩
    · cases h
  · cases h
theorem mj_l2_inv {f : Int64 → Int64 → Option Value} {st st' : List Value} (h : mj_l2 f st = some st') : ∃ x y r v, st = .long y :: .long x :: r ∧ f x y = some v ∧ st' = v :: r := by
  unfold mj_l2 at h
  split at h
  · rename_i y x r
    split at h
    · rename_i v hv
      cases h
      exact ⟨x, y, r, v, rfl, hv, rfl⟩
    · cases h
  · cases h
theorem mj_li_inv {f : Int64 → Int32 → Value} {st st' : List Value} (h : mj_li f st = some st') : ∃ x y r, st = .int y :: .long x :: r ∧ st' = f x y :: r := by
  unfold mj_li at h
  split at h
  · rename_i y x r
    cases h
    exact ⟨x, y, r, rfl, rfl⟩
  · cases h
theorem mj_i1_inv {f : Int32 → Value} {st st' : List Value} (h : mj_i1 f st = some st') : ∃ x r, st = .int x :: r ∧ st' = f x :: r := by
  unfold mj_i1 at h
  split at h
  · rename_i x r
    cases h
    exact ⟨x, r, rfl, rfl⟩
  · cases h
theorem mj_l1_inv {f : Int64 → Value} {st st' : List Value} (h : mj_l1 f st = some st') : ∃ x r, st = .long x :: r ∧ st' = f x :: r := by
  unfold mj_l1 at h
  split at h
  · rename_i x r
    cases h
    exact ⟨x, r, rfl, rfl⟩
  · cases h
section MJW
variable {p : Program} {l : Launch} {e : Env} {R : Room} {s : State} {m : MethodId} {args : Array Value} {below : List Frame} {meth : Method} {c : Code} {Q : State → Prop} {D : va_G} {cl : List vw_C} {A : Nat → Prop} {H0 : Heap} {as0 : List Nat} {X : Nat → Option Nat} {n0 z0 : Nat}
variable {cc : ByteArray} {pc : Nat} {loc loc' : mj_L} {st st' : List Value} {h h' : mj_H}
theorem mj_w_iadd (hx : p.tables.exec = Jvm.exec) (hb : c.code = cc) (hdg : decode cc pc = .ok (.iadd, 1)) (hpu : mj_pu .iadd st = some st') (k : mj_W p l e R s m args below meth c Q D cl A H0 as0 X n0 z0 (pc + 1) loc st' h) : mj_W p l e R s m args below meth c Q D cl A H0 as0 X n0 z0 pc loc st h := by
  obtain ⟨x, y, r, v, rfl, hv, rfl⟩ := mj_i2_inv (show mj_i2 (fun x y => some (.int (x + y))) st = some st' from hpu)
  cases hv
  intro hn hz as ls sw ws H locs ha hl hs hh hP hD hS
  obtain ⟨s1, rfl, hs1⟩ := mj_SR_int hs
  obtain ⟨s2, rfl, hs2⟩ := mj_SR_int hs1
  exact lv_iadd hx hb hdg (k hn hz as ls _ ws H locs ha hl (mj_SR_put rfl hs2) hh hP hD hS)
theorem mj_w_isub (hx : p.tables.exec = Jvm.exec) (hb : c.code = cc) (hdg : decode cc pc = .ok (.isub, 1)) (hpu : mj_pu .isub st = some st') (k : mj_W p l e R s m args below meth c Q D cl A H0 as0 X n0 z0 (pc + 1) loc st' h) : mj_W p l e R s m args below meth c Q D cl A H0 as0 X n0 z0 pc loc st h := by
  obtain ⟨x, y, r, v, rfl, hv, rfl⟩ := mj_i2_inv (show mj_i2 (fun x y => some (.int (x - y))) st = some st' from hpu)
  cases hv
  intro hn hz as ls sw ws H locs ha hl hs hh hP hD hS
  obtain ⟨s1, rfl, hs1⟩ := mj_SR_int hs
  obtain ⟨s2, rfl, hs2⟩ := mj_SR_int hs1
  exact lv_isub hx hb hdg (k hn hz as ls _ ws H locs ha hl (mj_SR_put rfl hs2) hh hP hD hS)
theorem mj_w_imul (hx : p.tables.exec = Jvm.exec) (hb : c.code = cc) (hdg : decode cc pc = .ok (.imul, 1)) (hpu : mj_pu .imul st = some st') (k : mj_W p l e R s m args below meth c Q D cl A H0 as0 X n0 z0 (pc + 1) loc st' h) : mj_W p l e R s m args below meth c Q D cl A H0 as0 X n0 z0 pc loc st h := by
  obtain ⟨x, y, r, v, rfl, hv, rfl⟩ := mj_i2_inv (show mj_i2 (fun x y => some (.int (x * y))) st = some st' from hpu)
  cases hv
  intro hn hz as ls sw ws H locs ha hl hs hh hP hD hS
  obtain ⟨s1, rfl, hs1⟩ := mj_SR_int hs
  obtain ⟨s2, rfl, hs2⟩ := mj_SR_int hs1
  exact lv_imul hx hb hdg (k hn hz as ls _ ws H locs ha hl (mj_SR_put rfl hs2) hh hP hD hS)
theorem mj_w_iand (hx : p.tables.exec = Jvm.exec) (hb : c.code = cc) (hdg : decode cc pc = .ok (.iand, 1)) (hpu : mj_pu .iand st = some st') (k : mj_W p l e R s m args below meth c Q D cl A H0 as0 X n0 z0 (pc + 1) loc st' h) : mj_W p l e R s m args below meth c Q D cl A H0 as0 X n0 z0 pc loc st h := by
  obtain ⟨x, y, r, v, rfl, hv, rfl⟩ := mj_i2_inv (show mj_i2 (fun x y => some (.int (x &&& y))) st = some st' from hpu)
  cases hv
  intro hn hz as ls sw ws H locs ha hl hs hh hP hD hS
  obtain ⟨s1, rfl, hs1⟩ := mj_SR_int hs
  obtain ⟨s2, rfl, hs2⟩ := mj_SR_int hs1
  exact lv_iand hx hb hdg (k hn hz as ls _ ws H locs ha hl (mj_SR_put rfl hs2) hh hP hD hS)
theorem mj_w_ior (hx : p.tables.exec = Jvm.exec) (hb : c.code = cc) (hdg : decode cc pc = .ok (.ior, 1)) (hpu : mj_pu .ior st = some st') (k : mj_W p l e R s m args below meth c Q D cl A H0 as0 X n0 z0 (pc + 1) loc st' h) : mj_W p l e R s m args below meth c Q D cl A H0 as0 X n0 z0 pc loc st h := by
  obtain ⟨x, y, r, v, rfl, hv, rfl⟩ := mj_i2_inv (show mj_i2 (fun x y => some (.int (x ||| y))) st = some st' from hpu)
  cases hv
  intro hn hz as ls sw ws H locs ha hl hs hh hP hD hS
  obtain ⟨s1, rfl, hs1⟩ := mj_SR_int hs
  obtain ⟨s2, rfl, hs2⟩ := mj_SR_int hs1
  exact lv_ior hx hb hdg (k hn hz as ls _ ws H locs ha hl (mj_SR_put rfl hs2) hh hP hD hS)
theorem mj_w_ishl (hx : p.tables.exec = Jvm.exec) (hb : c.code = cc) (hdg : decode cc pc = .ok (.ishl, 1)) (hpu : mj_pu .ishl st = some st') (k : mj_W p l e R s m args below meth c Q D cl A H0 as0 X n0 z0 (pc + 1) loc st' h) : mj_W p l e R s m args below meth c Q D cl A H0 as0 X n0 z0 pc loc st h := by
  obtain ⟨x, y, r, v, rfl, hv, rfl⟩ := mj_i2_inv (show mj_i2 (fun x y => some (.int (x <<< (y &&& 31)))) st = some st' from hpu)
  cases hv
  intro hn hz as ls sw ws H locs ha hl hs hh hP hD hS
  obtain ⟨s1, rfl, hs1⟩ := mj_SR_int hs
  obtain ⟨s2, rfl, hs2⟩ := mj_SR_int hs1
  exact lv_ishl hx hb hdg (k hn hz as ls _ ws H locs ha hl (mj_SR_put rfl hs2) hh hP hD hS)
theorem mj_w_ishr (hx : p.tables.exec = Jvm.exec) (hb : c.code = cc) (hdg : decode cc pc = .ok (.ishr, 1)) (hpu : mj_pu .ishr st = some st') (k : mj_W p l e R s m args below meth c Q D cl A H0 as0 X n0 z0 (pc + 1) loc st' h) : mj_W p l e R s m args below meth c Q D cl A H0 as0 X n0 z0 pc loc st h := by
  obtain ⟨x, y, r, v, rfl, hv, rfl⟩ := mj_i2_inv (show mj_i2 (fun x y => some (.int (x >>> (y &&& 31)))) st = some st' from hpu)
  cases hv
  intro hn hz as ls sw ws H locs ha hl hs hh hP hD hS
  obtain ⟨s1, rfl, hs1⟩ := mj_SR_int hs
  obtain ⟨s2, rfl, hs2⟩ := mj_SR_int hs1
  exact lv_ishr hx hb hdg (k hn hz as ls _ ws H locs ha hl (mj_SR_put rfl hs2) hh hP hD hS)
theorem mj_w_iushr (hx : p.tables.exec = Jvm.exec) (hb : c.code = cc) (hdg : decode cc pc = .ok (.iushr, 1)) (hpu : mj_pu .iushr st = some st') (k : mj_W p l e R s m args below meth c Q D cl A H0 as0 X n0 z0 (pc + 1) loc st' h) : mj_W p l e R s m args below meth c Q D cl A H0 as0 X n0 z0 pc loc st h := by
  obtain ⟨x, y, r, v, rfl, hv, rfl⟩ := mj_i2_inv (show mj_i2 (fun x y => some (.int ((x.toUInt32 >>> (y.toUInt32 &&& 31)).toInt32))) st = some st' from hpu)
  cases hv
  intro hn hz as ls sw ws H locs ha hl hs hh hP hD hS
  obtain ⟨s1, rfl, hs1⟩ := mj_SR_int hs
  obtain ⟨s2, rfl, hs2⟩ := mj_SR_int hs1
  exact lv_iushr hx hb hdg rfl (k hn hz as ls _ ws H locs ha hl (mj_SR_put rfl hs2) hh hP hD hS)
theorem mj_w_idiv (hx : p.tables.exec = Jvm.exec) (hb : c.code = cc) (hdg : decode cc pc = .ok (.idiv, 1)) (hpu : mj_pu .idiv st = some st') (k : mj_W p l e R s m args below meth c Q D cl A H0 as0 X n0 z0 (pc + 1) loc st' h) : mj_W p l e R s m args below meth c Q D cl A H0 as0 X n0 z0 pc loc st h := by
  obtain ⟨x, y, r, v, rfl, hv, rfl⟩ := mj_i2_inv (show mj_i2 (fun x y => if y = 0 then none else some (.int (x / y))) st = some st' from hpu)
  by_cases hy : y = 0
  · rw [if_pos hy] at hv; cases hv
  rw [if_neg hy] at hv
  cases hv
  intro hn hz as ls sw ws H locs ha hl hs hh hP hD hS
  obtain ⟨s1, rfl, hs1⟩ := mj_SR_int hs
  obtain ⟨s2, rfl, hs2⟩ := mj_SR_int hs1
  exact lv_idiv hx hb hdg hy (k hn hz as ls _ ws H locs ha hl (mj_SR_put rfl hs2) hh hP hD hS)
theorem mj_w_irem (hx : p.tables.exec = Jvm.exec) (hb : c.code = cc) (hdg : decode cc pc = .ok (.irem, 1)) (hpu : mj_pu .irem st = some st') (k : mj_W p l e R s m args below meth c Q D cl A H0 as0 X n0 z0 (pc + 1) loc st' h) : mj_W p l e R s m args below meth c Q D cl A H0 as0 X n0 z0 pc loc st h := by
  obtain ⟨x, y, r, v, rfl, hv, rfl⟩ := mj_i2_inv (show mj_i2 (fun x y => if y = 0 then none else some (.int (x - x / y * y))) st = some st' from hpu)
  by_cases hy : y = 0
  · rw [if_pos hy] at hv; cases hv
  rw [if_neg hy] at hv
  cases hv
  intro hn hz as ls sw ws H locs ha hl hs hh hP hD hS
  obtain ⟨s1, rfl, hs1⟩ := mj_SR_int hs
  obtain ⟨s2, rfl, hs2⟩ := mj_SR_int hs1
  exact lv_irem hx hb hdg hy (k hn hz as ls _ ws H locs ha hl (mj_SR_put rfl hs2) hh hP hD hS)
theorem mj_w_ladd (hx : p.tables.exec = Jvm.exec) (hb : c.code = cc) (hdg : decode cc pc = .ok (.ladd, 1)) (hpu : mj_pu .ladd st = some st') (k : mj_W p l e R s m args below meth c Q D cl A H0 as0 X n0 z0 (pc + 1) loc st' h) : mj_W p l e R s m args below meth c Q D cl A H0 as0 X n0 z0 pc loc st h := by
  obtain ⟨x, y, r, v, rfl, hv, rfl⟩ := mj_l2_inv (show mj_l2 (fun x y => some (.long (x + y))) st = some st' from hpu)
  cases hv
  intro hn hz as ls sw ws H locs ha hl hs hh hP hD hS
  obtain ⟨s1, rfl, hs1⟩ := mj_SR_long hs
  obtain ⟨s2, rfl, hs2⟩ := mj_SR_long hs1
  exact lv_ladd hx hb hdg (k hn hz as ls _ ws H locs ha hl (mj_SR_put rfl hs2) hh hP hD hS)
theorem mj_w_lsub (hx : p.tables.exec = Jvm.exec) (hb : c.code = cc) (hdg : decode cc pc = .ok (.lsub, 1)) (hpu : mj_pu .lsub st = some st') (k : mj_W p l e R s m args below meth c Q D cl A H0 as0 X n0 z0 (pc + 1) loc st' h) : mj_W p l e R s m args below meth c Q D cl A H0 as0 X n0 z0 pc loc st h := by
  obtain ⟨x, y, r, v, rfl, hv, rfl⟩ := mj_l2_inv (show mj_l2 (fun x y => some (.long (x - y))) st = some st' from hpu)
  cases hv
  intro hn hz as ls sw ws H locs ha hl hs hh hP hD hS
  obtain ⟨s1, rfl, hs1⟩ := mj_SR_long hs
  obtain ⟨s2, rfl, hs2⟩ := mj_SR_long hs1
  exact lv_lsub hx hb hdg (k hn hz as ls _ ws H locs ha hl (mj_SR_put rfl hs2) hh hP hD hS)
theorem mj_w_lmul (hx : p.tables.exec = Jvm.exec) (hb : c.code = cc) (hdg : decode cc pc = .ok (.lmul, 1)) (hpu : mj_pu .lmul st = some st') (k : mj_W p l e R s m args below meth c Q D cl A H0 as0 X n0 z0 (pc + 1) loc st' h) : mj_W p l e R s m args below meth c Q D cl A H0 as0 X n0 z0 pc loc st h := by
  obtain ⟨x, y, r, v, rfl, hv, rfl⟩ := mj_l2_inv (show mj_l2 (fun x y => some (.long (x * y))) st = some st' from hpu)
  cases hv
  intro hn hz as ls sw ws H locs ha hl hs hh hP hD hS
  obtain ⟨s1, rfl, hs1⟩ := mj_SR_long hs
  obtain ⟨s2, rfl, hs2⟩ := mj_SR_long hs1
  exact lv_lmul hx hb hdg (k hn hz as ls _ ws H locs ha hl (mj_SR_put rfl hs2) hh hP hD hS)
theorem mj_w_lor (hx : p.tables.exec = Jvm.exec) (hb : c.code = cc) (hdg : decode cc pc = .ok (.lor, 1)) (hpu : mj_pu .lor st = some st') (k : mj_W p l e R s m args below meth c Q D cl A H0 as0 X n0 z0 (pc + 1) loc st' h) : mj_W p l e R s m args below meth c Q D cl A H0 as0 X n0 z0 pc loc st h := by
  obtain ⟨x, y, r, v, rfl, hv, rfl⟩ := mj_l2_inv (show mj_l2 (fun x y => some (.long (x ||| y))) st = some st' from hpu)
  cases hv
  intro hn hz as ls sw ws H locs ha hl hs hh hP hD hS
  obtain ⟨s1, rfl, hs1⟩ := mj_SR_long hs
  obtain ⟨s2, rfl, hs2⟩ := mj_SR_long hs1
  exact lv_lor hx hb hdg (k hn hz as ls _ ws H locs ha hl (mj_SR_put rfl hs2) hh hP hD hS)
theorem mj_w_lcmp (hx : p.tables.exec = Jvm.exec) (hb : c.code = cc) (hdg : decode cc pc = .ok (.lcmp, 1)) (hpu : mj_pu .lcmp st = some st') (k : mj_W p l e R s m args below meth c Q D cl A H0 as0 X n0 z0 (pc + 1) loc st' h) : mj_W p l e R s m args below meth c Q D cl A H0 as0 X n0 z0 pc loc st h := by
  obtain ⟨x, y, r, v, rfl, hv, rfl⟩ := mj_l2_inv (show mj_l2 (fun x y => some (.int (lg_cmp x y))) st = some st' from hpu)
  cases hv
  intro hn hz as ls sw ws H locs ha hl hs hh hP hD hS
  obtain ⟨s1, rfl, hs1⟩ := mj_SR_long hs
  obtain ⟨s2, rfl, hs2⟩ := mj_SR_long hs1
  exact W.lcmp hx hb hdg (k hn hz as ls _ ws H locs ha hl (mj_SR_put rfl hs2) hh hP hD hS)
theorem mj_w_ldiv (hx : p.tables.exec = Jvm.exec) (hb : c.code = cc) (hdg : decode cc pc = .ok (.ldiv, 1)) (hpu : mj_pu .ldiv st = some st') (k : mj_W p l e R s m args below meth c Q D cl A H0 as0 X n0 z0 (pc + 1) loc st' h) : mj_W p l e R s m args below meth c Q D cl A H0 as0 X n0 z0 pc loc st h := by
  obtain ⟨x, y, r, v, rfl, hv, rfl⟩ := mj_l2_inv (show mj_l2 (fun x y => if y = 0 then none else some (.long (x / y))) st = some st' from hpu)
  by_cases hy : y = 0
  · rw [if_pos hy] at hv; cases hv
  rw [if_neg hy] at hv
  cases hv
  intro hn hz as ls sw ws H locs ha hl hs hh hP hD hS
  obtain ⟨s1, rfl, hs1⟩ := mj_SR_long hs
  obtain ⟨s2, rfl, hs2⟩ := mj_SR_long hs1
  exact lv_ldiv hx hb hdg hy (k hn hz as ls _ ws H locs ha hl (mj_SR_put rfl hs2) hh hP hD hS)
theorem mj_w_lrem (hx : p.tables.exec = Jvm.exec) (hb : c.code = cc) (hdg : decode cc pc = .ok (.lrem, 1)) (hpu : mj_pu .lrem st = some st') (k : mj_W p l e R s m args below meth c Q D cl A H0 as0 X n0 z0 (pc + 1) loc st' h) : mj_W p l e R s m args below meth c Q D cl A H0 as0 X n0 z0 pc loc st h := by
  obtain ⟨x, y, r, v, rfl, hv, rfl⟩ := mj_l2_inv (show mj_l2 (fun x y => if y = 0 then none else some (.long (x - x / y * y))) st = some st' from hpu)
  by_cases hy : y = 0
  · rw [if_pos hy] at hv; cases hv
  rw [if_neg hy] at hv
  cases hv
  intro hn hz as ls sw ws H locs ha hl hs hh hP hD hS
  obtain ⟨s1, rfl, hs1⟩ := mj_SR_long hs
  obtain ⟨s2, rfl, hs2⟩ := mj_SR_long hs1
  exact lv_lrem hx hb hdg hy (k hn hz as ls _ ws H locs ha hl (mj_SR_put rfl hs2) hh hP hD hS)
theorem mj_w_lshl (hx : p.tables.exec = Jvm.exec) (hb : c.code = cc) (hdg : decode cc pc = .ok (.lshl, 1)) (hpu : mj_pu .lshl st = some st') (k : mj_W p l e R s m args below meth c Q D cl A H0 as0 X n0 z0 (pc + 1) loc st' h) : mj_W p l e R s m args below meth c Q D cl A H0 as0 X n0 z0 pc loc st h := by
  obtain ⟨x, y, r, rfl, rfl⟩ := mj_li_inv (show mj_li (fun x y => .long (x <<< (y.toInt64 &&& 63))) st = some st' from hpu)
  intro hn hz as ls sw ws H locs ha hl hs hh hP hD hS
  obtain ⟨s1, rfl, hs1⟩ := mj_SR_int hs
  obtain ⟨s2, rfl, hs2⟩ := mj_SR_long hs1
  exact lv_lshl hx hb hdg rfl (k hn hz as ls _ ws H locs ha hl (mj_SR_put rfl hs2) hh hP hD hS)
theorem mj_w_lshr (hx : p.tables.exec = Jvm.exec) (hb : c.code = cc) (hdg : decode cc pc = .ok (.lshr, 1)) (hpu : mj_pu .lshr st = some st') (k : mj_W p l e R s m args below meth c Q D cl A H0 as0 X n0 z0 (pc + 1) loc st' h) : mj_W p l e R s m args below meth c Q D cl A H0 as0 X n0 z0 pc loc st h := by
  obtain ⟨x, y, r, rfl, rfl⟩ := mj_li_inv (show mj_li (fun x y => .long (x >>> (y.toInt64 &&& 63))) st = some st' from hpu)
  intro hn hz as ls sw ws H locs ha hl hs hh hP hD hS
  obtain ⟨s1, rfl, hs1⟩ := mj_SR_int hs
  obtain ⟨s2, rfl, hs2⟩ := mj_SR_long hs1
  exact lv_lshr hx hb hdg rfl (k hn hz as ls _ ws H locs ha hl (mj_SR_put rfl hs2) hh hP hD hS)
theorem mj_w_ineg (hx : p.tables.exec = Jvm.exec) (hb : c.code = cc) (hdg : decode cc pc = .ok (.ineg, 1)) (hpu : mj_pu .ineg st = some st') (k : mj_W p l e R s m args below meth c Q D cl A H0 as0 X n0 z0 (pc + 1) loc st' h) : mj_W p l e R s m args below meth c Q D cl A H0 as0 X n0 z0 pc loc st h := by
  obtain ⟨x, r, rfl, rfl⟩ := mj_i1_inv (show mj_i1 (fun x => .int (-x)) st = some st' from hpu)
  intro hn hz as ls sw ws H locs ha hl hs hh hP hD hS
  obtain ⟨s1, rfl, hs2⟩ := mj_SR_int hs
  exact lv_ineg hx hb hdg (k hn hz as ls _ ws H locs ha hl (mj_SR_put rfl hs2) hh hP hD hS)
theorem mj_w_lneg (hx : p.tables.exec = Jvm.exec) (hb : c.code = cc) (hdg : decode cc pc = .ok (.lneg, 1)) (hpu : mj_pu .lneg st = some st') (k : mj_W p l e R s m args below meth c Q D cl A H0 as0 X n0 z0 (pc + 1) loc st' h) : mj_W p l e R s m args below meth c Q D cl A H0 as0 X n0 z0 pc loc st h := by
  obtain ⟨x, r, rfl, rfl⟩ := mj_l1_inv (show mj_l1 (fun x => .long (-x)) st = some st' from hpu)
  intro hn hz as ls sw ws H locs ha hl hs hh hP hD hS
  obtain ⟨s1, rfl, hs2⟩ := mj_SR_long hs
  exact lv_lneg hx hb hdg (k hn hz as ls _ ws H locs ha hl (mj_SR_put rfl hs2) hh hP hD hS)
theorem mj_w_i2b (hx : p.tables.exec = Jvm.exec) (hb : c.code = cc) (hdg : decode cc pc = .ok (.i2b, 1)) (hpu : mj_pu .i2b st = some st') (k : mj_W p l e R s m args below meth c Q D cl A H0 as0 X n0 z0 (pc + 1) loc st' h) : mj_W p l e R s m args below meth c Q D cl A H0 as0 X n0 z0 pc loc st h := by
  obtain ⟨x, r, rfl, rfl⟩ := mj_i1_inv (show mj_i1 (fun x => .int x.toInt8.toInt32) st = some st' from hpu)
  intro hn hz as ls sw ws H locs ha hl hs hh hP hD hS
  obtain ⟨s1, rfl, hs2⟩ := mj_SR_int hs
  exact lv_i2b hx hb hdg rfl (k hn hz as ls _ ws H locs ha hl (mj_SR_put rfl hs2) hh hP hD hS)
theorem mj_w_i2l (hx : p.tables.exec = Jvm.exec) (hb : c.code = cc) (hdg : decode cc pc = .ok (.i2l, 1)) (hpu : mj_pu .i2l st = some st') (k : mj_W p l e R s m args below meth c Q D cl A H0 as0 X n0 z0 (pc + 1) loc st' h) : mj_W p l e R s m args below meth c Q D cl A H0 as0 X n0 z0 pc loc st h := by
  obtain ⟨x, r, rfl, rfl⟩ := mj_i1_inv (show mj_i1 (fun x => .long x.toInt64) st = some st' from hpu)
  intro hn hz as ls sw ws H locs ha hl hs hh hP hD hS
  obtain ⟨s1, rfl, hs2⟩ := mj_SR_int hs
  exact lv_i2l hx hb hdg rfl (k hn hz as ls _ ws H locs ha hl (mj_SR_put rfl hs2) hh hP hD hS)
theorem mj_w_i2c (hx : p.tables.exec = Jvm.exec) (hb : c.code = cc) (hdg : decode cc pc = .ok (.i2c, 1)) (hpu : mj_pu .i2c st = some st') (k : mj_W p l e R s m args below meth c Q D cl A H0 as0 X n0 z0 (pc + 1) loc st' h) : mj_W p l e R s m args below meth c Q D cl A H0 as0 X n0 z0 pc loc st h := by
  obtain ⟨x, r, rfl, rfl⟩ := mj_i1_inv (show mj_i1 (fun x => .int (x.toUInt32 % 65536).toInt32) st = some st' from hpu)
  intro hn hz as ls sw ws H locs ha hl hs hh hP hD hS
  obtain ⟨s1, rfl, hs2⟩ := mj_SR_int hs
  exact lv_i2c hx hb hdg rfl (k hn hz as ls _ ws H locs ha hl (mj_SR_put rfl hs2) hh hP hD hS)
theorem mj_w_l2i (hx : p.tables.exec = Jvm.exec) (hb : c.code = cc) (hdg : decode cc pc = .ok (.l2i, 1)) (hpu : mj_pu .l2i st = some st') (k : mj_W p l e R s m args below meth c Q D cl A H0 as0 X n0 z0 (pc + 1) loc st' h) : mj_W p l e R s m args below meth c Q D cl A H0 as0 X n0 z0 pc loc st h := by
  obtain ⟨x, r, rfl, rfl⟩ := mj_l1_inv (show mj_l1 (fun x => .int x.toInt32) st = some st' from hpu)
  intro hn hz as ls sw ws H locs ha hl hs hh hP hD hS
  obtain ⟨s1, rfl, hs2⟩ := mj_SR_long hs
  exact lv_l2i hx hb hdg rfl (k hn hz as ls _ ws H locs ha hl (mj_SR_put rfl hs2) hh hP hD hS)
theorem mj_w_dup (hx : p.tables.exec = Jvm.exec) (hb : c.code = cc) (hdg : decode cc pc = .ok (.dup, 1)) (hpu : mj_pu .dup st = some st') (k : mj_W p l e R s m args below meth c Q D cl A H0 as0 X n0 z0 (pc + 1) loc st' h) : mj_W p l e R s m args below meth c Q D cl A H0 as0 X n0 z0 pc loc st h := by
  cases st with
  | nil => cases hpu
  | cons a r =>
    by_cases hc : mj_c1 a = true
    · have h2 : st' = a :: a :: r := by simpa [mj_pu, hc] using hpu.symm
      subst h2
      intro hn hz as ls sw ws H locs ha hl hs hh hP hD hS
      obtain ⟨w, r', rfl, h3, h4⟩ := mj_SR_cons hs
      exact lv_dup hx hb hdg (mj_mv_c1 h3 hc) (k hn hz as ls _ ws H locs ha hl (mj_SR_put h3 (mj_SR_put h3 h4)) hh hP hD hS)
    · simp [mj_pu, hc] at hpu
theorem mj_w_pop (hx : p.tables.exec = Jvm.exec) (hb : c.code = cc) (hdg : decode cc pc = .ok (.pop, 1)) (hpu : mj_pu .pop st = some st') (k : mj_W p l e R s m args below meth c Q D cl A H0 as0 X n0 z0 (pc + 1) loc st' h) : mj_W p l e R s m args below meth c Q D cl A H0 as0 X n0 z0 pc loc st h := by
  cases st with
  | nil => cases hpu
  | cons a r =>
    by_cases hc : mj_c1 a = true
    · have h2 : st' = r := by simpa [mj_pu, hc] using hpu.symm
      subst h2
      intro hn hz as ls sw ws H locs ha hl hs hh hP hD hS
      obtain ⟨w, r', rfl, h3, h4⟩ := mj_SR_cons hs
      exact lv_pop hx hb hdg (mj_mv_c1 h3 hc) (k hn hz as ls _ ws H locs ha hl h4 hh hP hD hS)
    · simp [mj_pu, hc] at hpu
theorem mj_d2 {a b : Value} {r : List Value} (hn : ∀ x, a ≠ .long x) : mj_pu .dup2 (a :: b :: r) = if mj_c1 a = true ∧ mj_c1 b = true then some (a :: b :: a :: b :: r) else none := by
  cases a <;> first | rfl | exact absurd rfl (hn _)
theorem mj_w_dup2 (hx : p.tables.exec = Jvm.exec) (hb : c.code = cc) (hdg : decode cc pc = .ok (.dup2, 1)) (hpu : mj_pu .dup2 st = some st') (k : mj_W p l e R s m args below meth c Q D cl A H0 as0 X n0 z0 (pc + 1) loc st' h) : mj_W p l e R s m args below meth c Q D cl A H0 as0 X n0 z0 pc loc st h := by
  cases st with
  | nil => cases hpu
  | cons a r =>
    by_cases hlg : ∃ x, a = .long x
    · obtain ⟨x, rfl⟩ := hlg
      have h2 : st' = .long x :: .long x :: r := by cases hpu; rfl
      subst h2
      intro hn hz as ls sw ws H locs ha hl hs hh hP hD hS
      obtain ⟨s1, rfl, hs2⟩ := mj_SR_long hs
      exact lv_dup2_2 hx hb hdg rfl (k hn hz as ls _ ws H locs ha hl (mj_SR_put rfl (mj_SR_put rfl hs2)) hh hP hD hS)
    · have hlg : ∀ x, a ≠ .long x := fun x q => hlg ⟨x, q⟩
      cases r with
      | nil => cases a <;> first | (cases hpu; done) | exact absurd rfl (hlg _)
      | cons b r =>
        rw [mj_d2 hlg] at hpu
        by_cases hc : mj_c1 a = true ∧ mj_c1 b = true
        · rw [if_pos hc] at hpu
          cases hpu
          intro hn hz as ls sw ws H locs ha hl hs hh hP hD hS
          obtain ⟨w, r', rfl, h3, h4⟩ := mj_SR_cons hs
          obtain ⟨w2, r2, rfl, h5, h6⟩ := mj_SR_cons h4
          exact lv_dup2_11 hx hb hdg (mj_mv_c1 h3 hc.1) (mj_mv_c1 h5 hc.2) (k hn hz as ls _ ws H locs ha hl (mj_SR_put h3 (mj_SR_put h5 (mj_SR_put h3 (mj_SR_put h5 h6)))) hh hP hD hS)
        · rw [if_neg hc] at hpu
          cases hpu
theorem mj_w_pu (hx : p.tables.exec = Jvm.exec) (hb : c.code = cc) {i : Instr} (hdg : decode cc pc = .ok (i, 1)) (hpu : mj_pu i st = some st') (k : mj_W p l e R s m args below meth c Q D cl A H0 as0 X n0 z0 (pc + 1) loc st' h) : mj_W p l e R s m args below meth c Q D cl A H0 as0 X n0 z0 pc loc st h := by
  cases i <;> first
    | exact mj_w_iadd hx hb hdg hpu k
    | exact mj_w_isub hx hb hdg hpu k
    | exact mj_w_imul hx hb hdg hpu k
    | exact mj_w_iand hx hb hdg hpu k
    | exact mj_w_ior hx hb hdg hpu k
    | exact mj_w_ishl hx hb hdg hpu k
    | exact mj_w_ishr hx hb hdg hpu k
    | exact mj_w_iushr hx hb hdg hpu k
    | exact mj_w_idiv hx hb hdg hpu k
    | exact mj_w_irem hx hb hdg hpu k
    | exact mj_w_ladd hx hb hdg hpu k
    | exact mj_w_lsub hx hb hdg hpu k
    | exact mj_w_lmul hx hb hdg hpu k
    | exact mj_w_lor hx hb hdg hpu k
    | exact mj_w_lcmp hx hb hdg hpu k
    | exact mj_w_ldiv hx hb hdg hpu k
    | exact mj_w_lrem hx hb hdg hpu k
    | exact mj_w_lshl hx hb hdg hpu k
    | exact mj_w_lshr hx hb hdg hpu k
    | exact mj_w_ineg hx hb hdg hpu k
    | exact mj_w_lneg hx hb hdg hpu k
    | exact mj_w_i2l hx hb hdg hpu k
    | exact mj_w_i2c hx hb hdg hpu k
    | exact mj_w_i2b hx hb hdg hpu k
    | exact mj_w_l2i hx hb hdg hpu k
    | exact mj_w_dup hx hb hdg hpu k
    | exact mj_w_pop hx hb hdg hpu k
    | exact mj_w_dup2 hx hb hdg hpu k
    | exact absurd hpu (by simp [mj_pu])
end MJW
