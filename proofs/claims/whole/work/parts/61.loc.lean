/-! locals, constants, branches, returns -/
theorem mj_lget_lt : ∀ {l : mj_L} {k : Nat} {v : Value}, mj_lget l k = some v → k < l.length
  | [], _, _, h => by cases h
  | _ :: _, 0, _, _ => Nat.succ_pos _
  | _ :: l, k + 1, v, h => Nat.succ_lt_succ (mj_lget_lt (l := l) (k := k) h)
theorem mj_lset_len : ∀ (l : mj_L) (k : Nat) (v : Option Value), (mj_lset l k v).length = l.length
  | [], _, _ => rfl
  | _ :: _, 0, _ => rfl
  | _ :: l, k + 1, v => congrArg Nat.succ (mj_lset_len l k v)
theorem mj_lget_lset : ∀ (l : mj_L) (k j : Nat) (v : Option Value), mj_lget (mj_lset l k v) j = if j = k then (if k < l.length then v else none) else mj_lget l j
  | [], k, j, v => by simp [mj_lset, mj_lget]
  | a :: l, 0, 0, v => by simp [mj_lset, mj_lget]
  | a :: l, 0, j + 1, v => by simp [mj_lset, mj_lget]
  | a :: l, k + 1, 0, v => by simp [mj_lset, mj_lget]
  | a :: l, k + 1, j + 1, v => by
    have h := mj_lget_lset l k j v
    simp only [mj_lset, mj_lget, h, Nat.add_right_cancel_iff, List.length_cons, Nat.add_lt_add_iff_right]
def mj_lv (as : List Nat) (X : Nat → Option Nat) (loc : mj_L) : List (Nat × Value) := (List.range loc.length).filterMap (fun k => match mj_lget loc k with
  | some v => (mj_mv as X v).map (fun w => (k, w))
  | none => none)
theorem mj_lv_mem {as : List Nat} {X : Nat → Option Nat} {loc : mj_L} {k : Nat} {v w : Value} (h : mj_lget loc k = some v) (hw : mj_mv as X v = some w) : (k, w) ∈ mj_lv as X loc :=
  List.mem_filterMap.mpr ⟨k, List.mem_range.mpr (mj_lget_lt h), by simp [h, hw]⟩
theorem mj_LR_has {as : List Nat} {X : Nat → Option Nat} {loc : mj_L} {ls : Array Slot} (h : mj_LR as X loc ls) : lv_has ls ls.size (mj_lv as X loc) := by
  refine ⟨rfl, h.2.1, fun q hq => ?_⟩
  obtain ⟨k, -, hk⟩ := List.mem_filterMap.mp hq
  cases hg : mj_lget loc k with
  | none => rw [hg] at hk; cases hk
  | some v =>
    rw [hg] at hk
    obtain ⟨w, hw, rfl⟩ := Option.map_eq_some_iff.mp hk
    obtain ⟨w', h1, h2⟩ := h.2.2 k v hg
    rw [h1] at hw
    cases hw
    exact h2
theorem mj_pl_no {as : List Nat} {X : Nat → Option Nat} {loc : mj_L} {i j : Nat} {v w : Value} (hp : mj_pl loc i = false) (h : mj_lget loc j = some v) (hw : mj_mv as X v = some w) : ¬ (j + 1 = i ∧ w.category = 2) := by
  rintro ⟨rfl, h2⟩
  simp only [mj_pl, h] at hp
  cases v <;> simp [mj_mv] at hw hp
  · subst hw; cases h2
  · obtain ⟨a, -, rfl⟩ := hw; cases a <;> cases h2
  · subst hw; cases h2
  · obtain ⟨a, -, rfl⟩ := hw; cases h2
  · obtain ⟨a, -, rfl⟩ := hw; cases h2
theorem mj_LR_set1 {as : List Nat} {X : Nat → Option Nat} {loc : mj_L} {ls ls' : Array Slot} {i : Nat} {v w : Value} (h : mj_LR as X loc ls) (hp : mj_pl loc i = false) (hw : mj_mv as X v = some w)
    (h' : lv_has ls' ls.size ((i, w) :: (mj_lv as X loc).filter (fun q => !(q.1 == i) && !(q.1 + 1 == i && q.2.category == 2)))) : mj_LR as X (mj_lset loc i (some v)) ls' := by
  refine ⟨by rw [mj_lset_len, h.1, h'.1], h'.2.1, fun k u hk => ?_⟩
  rw [mj_lget_lset] at hk
  by_cases hki : k = i
  · rw [if_pos hki] at hk
    split at hk
    · cases hk
      exact ⟨w, hw, by rw [hki]; exact h'.2.2 (i, w) List.mem_cons_self⟩
    · cases hk
  · rw [if_neg hki] at hk
    obtain ⟨w', h1, h2⟩ := h.2.2 k u hk
    refine ⟨w', h1, h'.2.2 (k, w') (List.mem_cons_of_mem _ (List.mem_filter.mpr ⟨mj_lv_mem hk h1, ?_⟩))⟩
    have := mj_pl_no hp hk h1
    simp [hki]
    by_cases q : k + 1 = i
    · exact Or.inr fun z => this ⟨q, z⟩
    · exact Or.inl q
theorem mj_LR_set2 {as : List Nat} {X : Nat → Option Nat} {loc : mj_L} {ls ls' : Array Slot} {i : Nat} {v w : Value} (h : mj_LR as X loc ls) (hp : mj_pl loc i = false) (hw : mj_mv as X v = some w)
    (h' : lv_has ls' ls.size ((i, w) :: (mj_lv as X loc).filter (fun q => !(q.1 == i) && (!(q.1 == i + 1) && !(q.1 + 1 == i && q.2.category == 2))))) : mj_LR as X (mj_lset (mj_lset loc i (some v)) (i + 1) none) ls' := by
  refine ⟨by rw [mj_lset_len, mj_lset_len, h.1, h'.1], h'.2.1, fun k u hk => ?_⟩
  rw [mj_lget_lset] at hk
  by_cases hk1 : k = i + 1
  · rw [if_pos hk1] at hk
    split at hk <;> cases hk
  · rw [if_neg hk1, mj_lget_lset] at hk
    by_cases hki : k = i
    · rw [if_pos hki] at hk
      split at hk
      · cases hk
        exact ⟨w, hw, by rw [hki]; exact h'.2.2 (i, w) List.mem_cons_self⟩
      · cases hk
    · rw [if_neg hki] at hk
      obtain ⟨w', h1, h2⟩ := h.2.2 k u hk
      refine ⟨w', h1, h'.2.2 (k, w') (List.mem_cons_of_mem _ (List.mem_filter.mpr ⟨mj_lv_mem hk h1, ?_⟩))⟩
      have := mj_pl_no hp hk h1
      simp [hki, hk1]
      by_cases q : k + 1 = i
      · exact Or.inr fun z => this ⟨q, z⟩
      · exact Or.inl q
theorem mj_LR_none {as : List Nat} {X : Nat → Option Nat} {loc : mj_L} {ls : Array Slot} {i : Nat} (h : mj_LR as X loc ls) : mj_LR as X (mj_lset loc i none) ls := by
  refine ⟨by rw [mj_lset_len, h.1], h.2.1, fun k u hk => ?_⟩
  rw [mj_lget_lset] at hk
  by_cases hki : k = i
  · rw [if_pos hki] at hk
    split at hk <;> cases hk
  · rw [if_neg hki] at hk
    exact h.2.2 k u hk
theorem mj_LR_kill {as : List Nat} {X : Nat → Option Nat} {ls : Array Slot} : ∀ (ks : List Nat) {loc : mj_L}, mj_LR as X loc ls → mj_LR as X (mj_kill ks loc) ls
  | [], _, h => h
  | _ :: ks, _, h => mj_LR_kill ks (mj_LR_none h)
section MJW
variable {p : Program} {l : Launch} {e : Env} {R : Room} {s : State} {m : MethodId} {args : Array Value} {below : List Frame} {meth : Method} {c : Code} {Q : State → Prop} {D : va_G} {cl : List vw_C} {A : Nat → Prop} {H0 : Heap} {as0 : List Nat} {X : Nat → Option Nat} {n0 z0 : Nat}
variable {cc : ByteArray} {pc : Nat} {loc loc' : mj_L} {st st' : List Value} {h h' : mj_H}
theorem mj_w_iload (hx : p.tables.exec = Jvm.exec) (hb : c.code = cc) {k : Nat} {y : Int32} {len : Nat} (hdg : (decode cc pc = .ok (.iload k, 2) ∧ len = 2) ∨ ∃ f : Fin 4, (f : Nat) = k ∧ decode cc pc = .ok (.iload_n f, 1) ∧ len = 1) (hg : mj_lget loc k = some (.int y)) (kk : mj_W p l e R s m args below meth c Q D cl A H0 as0 X n0 z0 (pc + len) loc (.int y :: st) h) : mj_W p l e R s m args below meth c Q D cl A H0 as0 X n0 z0 (pc) loc st h := by
  intro hn hz as ls sw ws H locs ha hl hs hh hP hD hS
  obtain ⟨v', hv', hls⟩ := hl.2.2 _ _ hg
  cases hv'
  rcases hdg with ⟨hdg, rfl⟩ | ⟨f, hf, hdg, rfl⟩
  · exact lv_iload hx hb hdg hls (kk hn hz as ls _ ws H locs ha hl (mj_SR_put rfl hs) hh hP hD hS)
  · exact lv_iload_n hx hb hdg hf hls (kk hn hz as ls _ ws H locs ha hl (mj_SR_put rfl hs) hh hP hD hS)
theorem mj_w_lload (hx : p.tables.exec = Jvm.exec) (hb : c.code = cc) {k : Nat} {y : Int64} {len : Nat} (hdg : (decode cc pc = .ok (.lload k, 2) ∧ len = 2) ∨ ∃ f : Fin 4, (f : Nat) = k ∧ decode cc pc = .ok (.lload_n f, 1) ∧ len = 1) (hg : mj_lget loc k = some (.long y)) (kk : mj_W p l e R s m args below meth c Q D cl A H0 as0 X n0 z0 (pc + len) loc (.long y :: st) h) : mj_W p l e R s m args below meth c Q D cl A H0 as0 X n0 z0 (pc) loc st h := by
  intro hn hz as ls sw ws H locs ha hl hs hh hP hD hS
  obtain ⟨v', hv', hls⟩ := hl.2.2 _ _ hg
  cases hv'
  rcases hdg with ⟨hdg, rfl⟩ | ⟨f, hf, hdg, rfl⟩
  · exact lv_lload hx hb hdg hls (kk hn hz as ls _ ws H locs ha hl (mj_SR_put rfl hs) hh hP hD hS)
  · exact lv_lload_n hx hb hdg hf hls (kk hn hz as ls _ ws H locs ha hl (mj_SR_put rfl hs) hh hP hD hS)
theorem mj_w_aload (hx : p.tables.exec = Jvm.exec) (hb : c.code = cc) {k : Nat} {v : Value} {len : Nat} (hdg : (decode cc pc = .ok (.aload k, 2) ∧ len = 2) ∨ ∃ f : Fin 4, (f : Nat) = k ∧ decode cc pc = .ok (.aload_n f, 1) ∧ len = 1) (hg : mj_lget loc k = some v) (hv : v = .null ∨ (∃ y, v = .ref y) ∨ ∃ y, v = .retAddr y) (kk : mj_W p l e R s m args below meth c Q D cl A H0 as0 X n0 z0 (pc + len) loc (v :: st) h) : mj_W p l e R s m args below meth c Q D cl A H0 as0 X n0 z0 (pc) loc st h := by
  intro hn hz as ls sw ws H locs ha hl hs hh hP hD hS
  obtain ⟨v', hv', hls⟩ := hl.2.2 _ _ hg
  have h1 : v' = .null ∨ ∃ a, v' = .ref a := by
    rcases hv with rfl | ⟨y, rfl⟩ | ⟨y, rfl⟩
    · cases hv'; exact Or.inl rfl
    · obtain ⟨a, -, h4⟩ := Option.map_eq_some_iff.mp hv'; exact Or.inr ⟨a, h4.symm⟩
    · obtain ⟨a, -, h4⟩ := Option.map_eq_some_iff.mp hv'; exact Or.inr ⟨a, h4.symm⟩
  have K := kk hn hz as ls _ ws H locs ha hl (mj_SR_put hv' hs) hh hP hD hS
  rcases h1 with rfl | ⟨a, rfl⟩
  · rcases hdg with ⟨hdg, rfl⟩ | ⟨f, hf, hdg, rfl⟩
    · exact lv_aloadN hx hb hdg hls K
    · exact lv_aload_nN hx hb hdg hf hls K
  · rcases hdg with ⟨hdg, rfl⟩ | ⟨f, hf, hdg, rfl⟩
    · exact lv_aload hx hb hdg hls K
    · exact lv_aload_n hx hb hdg hf hls K
theorem mj_w_istore (hx : p.tables.exec = Jvm.exec) (hb : c.code = cc) {k : Nat} {y : Int32} {len : Nat} (hdg : (decode cc pc = .ok (.istore k, 2) ∧ len = 2) ∨ ∃ f : Fin 4, (f : Nat) = k ∧ decode cc pc = .ok (.istore_n f, 1) ∧ len = 1) (hk : k < loc.length) (hp : mj_pl loc k = false) (kk : mj_W p l e R s m args below meth c Q D cl A H0 as0 X n0 z0 (pc + len) (mj_lset loc k (some (.int y))) st h) : mj_W p l e R s m args below meth c Q D cl A H0 as0 X n0 z0 (pc) loc (.int y :: st) h := by
  intro hn hz as ls sw ws H locs ha hl hs hh hP hD hS
  obtain ⟨s1, rfl, hs1⟩ := mj_SR_int hs
  rcases hdg with ⟨hdg, rfl⟩ | ⟨f, hf, hdg, rfl⟩
  · exact lv_istore hx hb hdg (mj_LR_has hl) (by rw [← hl.1]; exact hk) rfl (fun ls' h' => kk hn hz as ls' _ ws H locs ha (mj_LR_set1 hl hp rfl h') hs1 hh hP hD hS)
  · exact lv_istore_n hx hb hdg hf (mj_LR_has hl) (by rw [← hl.1]; exact hk) rfl (fun ls' h' => kk hn hz as ls' _ ws H locs ha (mj_LR_set1 hl hp rfl h') hs1 hh hP hD hS)
theorem mj_w_lstore (hx : p.tables.exec = Jvm.exec) (hb : c.code = cc) {k : Nat} {y : Int64} {len : Nat} (hdg : (decode cc pc = .ok (.lstore k, 2) ∧ len = 2) ∨ ∃ f : Fin 4, (f : Nat) = k ∧ decode cc pc = .ok (.lstore_n f, 1) ∧ len = 1) (hk : k + 1 < loc.length) (hp : mj_pl loc k = false) (kk : mj_W p l e R s m args below meth c Q D cl A H0 as0 X n0 z0 (pc + len) (mj_lset (mj_lset loc k (some (.long y))) (k + 1) none) st h) : mj_W p l e R s m args below meth c Q D cl A H0 as0 X n0 z0 (pc) loc (.long y :: st) h := by
  intro hn hz as ls sw ws H locs ha hl hs hh hP hD hS
  obtain ⟨s1, rfl, hs1⟩ := mj_SR_long hs
  rcases hdg with ⟨hdg, rfl⟩ | ⟨f, hf, hdg, rfl⟩
  · exact lv_lstore hx hb hdg (mj_LR_has hl) (by rw [← hl.1]; exact hk) rfl (fun ls' h' => kk hn hz as ls' _ ws H locs ha (mj_LR_set2 hl hp rfl h') hs1 hh hP hD hS)
  · exact lv_lstore_n hx hb hdg hf (mj_LR_has hl) (by rw [← hl.1]; exact hk) rfl (fun ls' h' => kk hn hz as ls' _ ws H locs ha (mj_LR_set2 hl hp rfl h') hs1 hh hP hD hS)
theorem mj_w_astore (hx : p.tables.exec = Jvm.exec) (hb : c.code = cc) {k : Nat} {v : Value} {len : Nat} (hdg : (decode cc pc = .ok (.astore k, 2) ∧ len = 2) ∨ ∃ f : Fin 4, (f : Nat) = k ∧ decode cc pc = .ok (.astore_n f, 1) ∧ len = 1) (hv : v = .null ∨ ∃ y, v = .ref y) (hk : k < loc.length) (hp : mj_pl loc k = false) (kk : mj_W p l e R s m args below meth c Q D cl A H0 as0 X n0 z0 (pc + len) (mj_lset loc k (some v)) st h) : mj_W p l e R s m args below meth c Q D cl A H0 as0 X n0 z0 (pc) loc (v :: st) h := by
  intro hn hz as ls sw ws H locs ha hl hs hh hP hD hS
  rcases hv with rfl | ⟨y, rfl⟩
  · obtain ⟨s1, rfl, hs1⟩ := mj_SR_null hs
    rcases hdg with ⟨hdg, rfl⟩ | ⟨f, hf, hdg, rfl⟩
    · exact lv_astoreN hx hb hdg (mj_LR_has hl) (by rw [← hl.1]; exact hk) rfl (fun ls' h' => kk hn hz as ls' _ ws H locs ha (mj_LR_set1 hl hp rfl h') hs1 hh hP hD hS)
    · exact lv_astore_nN hx hb hdg hf (mj_LR_has hl) (by rw [← hl.1]; exact hk) rfl (fun ls' h' => kk hn hz as ls' _ ws H locs ha (mj_LR_set1 hl hp rfl h') hs1 hh hP hD hS)
  · obtain ⟨a, s1, rfl, hy, hs1⟩ := mj_SR_ref hs
    have hw : mj_mv as X (.ref y) = some (.ref a) := by simp [mj_mv, hy]
    rcases hdg with ⟨hdg, rfl⟩ | ⟨f, hf, hdg, rfl⟩
    · exact lv_astore hx hb hdg (mj_LR_has hl) (by rw [← hl.1]; exact hk) rfl (fun ls' h' => kk hn hz as ls' _ ws H locs ha (mj_LR_set1 hl hp hw h') hs1 hh hP hD hS)
    · exact lv_astore_n hx hb hdg hf (mj_LR_has hl) (by rw [← hl.1]; exact hk) rfl (fun ls' h' => kk hn hz as ls' _ ws H locs ha (mj_LR_set1 hl hp hw h') hs1 hh hP hD hS)
theorem mj_w_iinc (hx : p.tables.exec = Jvm.exec) (hb : c.code = cc) {k : Nat} {n : Int} {y z : Int32} (hdg : decode cc pc = .ok (.iinc k n, 3)) (hzn : Int32.ofInt n = z) (hg : mj_lget loc k = some (.int y)) (hp : mj_pl loc k = false) (kk : mj_W p l e R s m args below meth c Q D cl A H0 as0 X n0 z0 (pc + 3) (mj_lset loc k (some (.int (y + z)))) st h) : mj_W p l e R s m args below meth c Q D cl A H0 as0 X n0 z0 (pc) loc st h := by
  intro hn hz as ls sw ws H locs ha hl hs hh hP hD hS
  subst hzn
  obtain ⟨i, hi⟩ := List.getElem?_of_mem (mj_lv_mem (as := as) (X := X) hg rfl)
  exact lv_iinc hx hb hdg (mj_LR_has hl) hi rfl (by rw [← hl.1]; exact mj_lget_lt hg) rfl (fun ls' h' => kk hn hz as ls' _ ws H locs ha (mj_LR_set1 hl hp rfl h') hs hh hP hD hS)
theorem mj_w_iconst (hx : p.tables.exec = Jvm.exec) (hb : c.code = cc) {n : Int} {v : Int32} (hdg : decode cc pc = .ok (.iconst n, 1)) (hv : Int32.ofInt n = v) (kk : mj_W p l e R s m args below meth c Q D cl A H0 as0 X n0 z0 (pc + 1) loc (.int v :: st) h) : mj_W p l e R s m args below meth c Q D cl A H0 as0 X n0 z0 (pc) loc st h := by
  intro hn hz as ls sw ws H locs ha hl hs hh hP hD hS
  exact lv_iconst hx hb hdg hv (kk hn hz as ls _ ws H locs ha hl (mj_SR_put rfl hs) hh hP hD hS)
theorem mj_w_bipush (hx : p.tables.exec = Jvm.exec) (hb : c.code = cc) {n : Int} {v : Int32} (hdg : decode cc pc = .ok (.bipush n, 2)) (hv : (Int8.ofInt n).toInt32 = v) (kk : mj_W p l e R s m args below meth c Q D cl A H0 as0 X n0 z0 (pc + 2) loc (.int v :: st) h) : mj_W p l e R s m args below meth c Q D cl A H0 as0 X n0 z0 (pc) loc st h := by
  intro hn hz as ls sw ws H locs ha hl hs hh hP hD hS
  exact lv_bipush hx hb hdg hv (kk hn hz as ls _ ws H locs ha hl (mj_SR_put rfl hs) hh hP hD hS)
theorem mj_w_sipush (hx : p.tables.exec = Jvm.exec) (hb : c.code = cc) {n : Int} {v : Int32} (hdg : decode cc pc = .ok (.sipush n, 3)) (hv : (Int16.ofInt n).toInt32 = v) (kk : mj_W p l e R s m args below meth c Q D cl A H0 as0 X n0 z0 (pc + 3) loc (.int v :: st) h) : mj_W p l e R s m args below meth c Q D cl A H0 as0 X n0 z0 (pc) loc st h := by
  intro hn hz as ls sw ws H locs ha hl hs hh hP hD hS
  exact lv_sipush hx hb hdg hv (kk hn hz as ls _ ws H locs ha hl (mj_SR_put rfl hs) hh hP hD hS)
theorem mj_w_lconst (hx : p.tables.exec = Jvm.exec) (hb : c.code = cc) {n : Fin 2} {v : Int64} (hdg : decode cc pc = .ok (.lconst n, 1)) (hv : Int64.ofNat (n : Nat) = v) (kk : mj_W p l e R s m args below meth c Q D cl A H0 as0 X n0 z0 (pc + 1) loc (.long v :: st) h) : mj_W p l e R s m args below meth c Q D cl A H0 as0 X n0 z0 (pc) loc st h := by
  intro hn hz as ls sw ws H locs ha hl hs hh hP hD hS
  exact lv_lconst hx hb hdg hv (kk hn hz as ls _ ws H locs ha hl (mj_SR_put rfl hs) hh hP hD hS)
theorem mj_w_null (hx : p.tables.exec = Jvm.exec) (hb : c.code = cc) (hdg : decode cc pc = .ok (.aconst_null, 1)) (kk : mj_W p l e R s m args below meth c Q D cl A H0 as0 X n0 z0 (pc + 1) loc (.null :: st) h) : mj_W p l e R s m args below meth c Q D cl A H0 as0 X n0 z0 (pc) loc st h := by
  intro hn hz as ls sw ws H locs ha hl hs hh hP hD hS
  exact lv_null hx hb hdg (kk hn hz as ls _ ws H locs ha hl (mj_SR_put rfl hs) hh hP hD hS)
theorem mj_w_ldc (hx : p.tables.exec = Jvm.exec) (hb : c.code = cc) {own : String} {index : Nat} {v : Int32} (hown : s.vm.findClass own = some m.cls) (hc : (Jvm.Cond.constant own index v).before args s = true) (hdg : decode cc pc = .ok (.ldc index, 2)) (kk : mj_W p l e R s m args below meth c Q D cl A H0 as0 X n0 z0 (pc + 2) loc (.int v :: st) h) : mj_W p l e R s m args below meth c Q D cl A H0 as0 X n0 z0 (pc) loc st h := by
  intro hn hz as ls sw ws H locs ha hl hs hh hP hD hS
  exact lv_ldc hx hb hown hc hdg (kk hn hz as ls _ ws H locs ha hl (mj_SR_put rfl hs) hh hP hD hS)
theorem mj_w_ldc_w (hx : p.tables.exec = Jvm.exec) (hb : c.code = cc) {own : String} {index : Nat} {v : Int32} (hown : s.vm.findClass own = some m.cls) (hc : (Jvm.Cond.constant own index v).before args s = true) (hdg : decode cc pc = .ok (.ldc_w index, 3)) (kk : mj_W p l e R s m args below meth c Q D cl A H0 as0 X n0 z0 (pc + 3) loc (.int v :: st) h) : mj_W p l e R s m args below meth c Q D cl A H0 as0 X n0 z0 (pc) loc st h := by
  intro hn hz as ls sw ws H locs ha hl hs hh hP hD hS
  exact lv_ldcw hx hb hown hc hdg (kk hn hz as ls _ ws H locs ha hl (mj_SR_put rfl hs) hh hP hD hS)
theorem mj_w_ldc2_w (hx : p.tables.exec = Jvm.exec) (hb : c.code = cc) {own : String} {index : Nat} {v : Int64} (hown : s.vm.findClass own = some m.cls) (hc : (Jvm.Cond.constantLong own index v).before args s = true) (hdg : decode cc pc = .ok (.ldc2_w index, 3)) (kk : mj_W p l e R s m args below meth c Q D cl A H0 as0 X n0 z0 (pc + 3) loc (.long v :: st) h) : mj_W p l e R s m args below meth c Q D cl A H0 as0 X n0 z0 (pc) loc st h := by
  intro hn hz as ls sw ws H locs ha hl hs hh hP hD hS
  exact lv_ldc2 hx hb hown hc hdg (kk hn hz as ls _ ws H locs ha hl (mj_SR_put rfl hs) hh hP hD hS)
theorem mj_w_goto (hx : p.tables.exec = Jvm.exec) (hb : c.code = cc) {off : Int} {tgt : Nat} (hdg : decode cc pc = .ok (.goto off, 3)) (ht : (pc : Int) + off = (tgt : Int)) (kk : mj_W p l e R s m args below meth c Q D cl A H0 as0 X n0 z0 (tgt) loc st h) : mj_W p l e R s m args below meth c Q D cl A H0 as0 X n0 z0 (pc) loc st h := by
  intro hn hz as ls sw ws H locs ha hl hs hh hP hD hS
  exact lv_goto hx hb hdg ht (kk hn hz as ls _ ws H locs ha hl hs hh hP hD hS)
theorem mj_w_if (hx : p.tables.exec = Jvm.exec) (hb : c.code = cc) {cd : Jvm.ClassFile.Cond} {x : Int32} {off : Int} {tgt : Nat} (hdg : decode cc pc = .ok (.ifCond cd off, 3)) (ht : (pc : Int) + off = (tgt : Int)) (kt : mj_cmp cd x 0 = true → mj_W p l e R s m args below meth c Q D cl A H0 as0 X n0 z0 (tgt) loc st h) (kf : ¬ mj_cmp cd x 0 = true → mj_W p l e R s m args below meth c Q D cl A H0 as0 X n0 z0 (pc + 3) loc st h) : mj_W p l e R s m args below meth c Q D cl A H0 as0 X n0 z0 (pc) loc (.int x :: st) h := by
  intro hn hz as ls sw ws H locs ha hl hs hh hP hD hS
  obtain ⟨s1, rfl, hs1⟩ := mj_SR_int hs
  cases cd
  · exact lv_if_eq hx hb hdg ht (fun q => kt (by simpa [mj_cmp] using q) hn hz as ls _ ws H locs ha hl hs1 hh hP hD hS) (fun q => kf (by simpa [mj_cmp] using q) hn hz as ls _ ws H locs ha hl hs1 hh hP hD hS)
  · exact lv_if_ne hx hb hdg ht (fun q => kt (by simpa [mj_cmp] using q) hn hz as ls _ ws H locs ha hl hs1 hh hP hD hS) (fun q => kf (by simpa [mj_cmp] using q) hn hz as ls _ ws H locs ha hl hs1 hh hP hD hS)
  · exact lv_if_lt hx hb hdg ht (fun q => kt (by simpa [mj_cmp] using q) hn hz as ls _ ws H locs ha hl hs1 hh hP hD hS) (fun q => kf (by simpa [mj_cmp] using q) hn hz as ls _ ws H locs ha hl hs1 hh hP hD hS)
  · exact lv_if_ge hx hb hdg ht (fun q => kt (by simpa [mj_cmp] using q) hn hz as ls _ ws H locs ha hl hs1 hh hP hD hS) (fun q => kf (by simpa [mj_cmp] using q) hn hz as ls _ ws H locs ha hl hs1 hh hP hD hS)
  · exact lv_if_gt hx hb hdg ht (fun q => kt (by simpa [mj_cmp] using q) hn hz as ls _ ws H locs ha hl hs1 hh hP hD hS) (fun q => kf (by simpa [mj_cmp] using q) hn hz as ls _ ws H locs ha hl hs1 hh hP hD hS)
  · exact lv_if_le hx hb hdg ht (fun q => kt (by simpa [mj_cmp] using q) hn hz as ls _ ws H locs ha hl hs1 hh hP hD hS) (fun q => kf (by simpa [mj_cmp] using q) hn hz as ls _ ws H locs ha hl hs1 hh hP hD hS)
theorem mj_w_icmp (hx : p.tables.exec = Jvm.exec) (hb : c.code = cc) {cd : Jvm.ClassFile.Cond} {x y : Int32} {off : Int} {tgt : Nat} (hdg : decode cc pc = .ok (.if_icmp cd off, 3)) (ht : (pc : Int) + off = (tgt : Int)) (kt : mj_cmp cd x y = true → mj_W p l e R s m args below meth c Q D cl A H0 as0 X n0 z0 (tgt) loc st h) (kf : ¬ mj_cmp cd x y = true → mj_W p l e R s m args below meth c Q D cl A H0 as0 X n0 z0 (pc + 3) loc st h) : mj_W p l e R s m args below meth c Q D cl A H0 as0 X n0 z0 (pc) loc (.int y :: .int x :: st) h := by
  intro hn hz as ls sw ws H locs ha hl hs hh hP hD hS
  obtain ⟨s1, rfl, hs1⟩ := mj_SR_int hs
  obtain ⟨s2, rfl, hs2⟩ := mj_SR_int hs1
  cases cd
  · exact lv_icmp_eq hx hb hdg ht (fun q => kt (by simpa [mj_cmp] using q) hn hz as ls _ ws H locs ha hl hs2 hh hP hD hS) (fun q => kf (by simpa [mj_cmp] using q) hn hz as ls _ ws H locs ha hl hs2 hh hP hD hS)
  · exact lv_icmp_ne hx hb hdg ht (fun q => kt (by simpa [mj_cmp] using q) hn hz as ls _ ws H locs ha hl hs2 hh hP hD hS) (fun q => kf (by simpa [mj_cmp] using q) hn hz as ls _ ws H locs ha hl hs2 hh hP hD hS)
  · exact lv_icmp_lt hx hb hdg ht (fun q => kt (by simpa [mj_cmp] using q) hn hz as ls _ ws H locs ha hl hs2 hh hP hD hS) (fun q => kf (by simpa [mj_cmp] using q) hn hz as ls _ ws H locs ha hl hs2 hh hP hD hS)
  · exact lv_icmp_ge hx hb hdg ht (fun q => kt (by simpa [mj_cmp] using q) hn hz as ls _ ws H locs ha hl hs2 hh hP hD hS) (fun q => kf (by simpa [mj_cmp] using q) hn hz as ls _ ws H locs ha hl hs2 hh hP hD hS)
  · exact lv_icmp_gt hx hb hdg ht (fun q => kt (by simpa [mj_cmp] using q) hn hz as ls _ ws H locs ha hl hs2 hh hP hD hS) (fun q => kf (by simpa [mj_cmp] using q) hn hz as ls _ ws H locs ha hl hs2 hh hP hD hS)
  · exact lv_icmp_le hx hb hdg ht (fun q => kt (by simpa [mj_cmp] using q) hn hz as ls _ ws H locs ha hl hs2 hh hP hD hS) (fun q => kf (by simpa [mj_cmp] using q) hn hz as ls _ ws H locs ha hl hs2 hh hP hD hS)
theorem mj_w_ifnull (hx : p.tables.exec = Jvm.exec) (hb : c.code = cc) {off : Int} {tgt : Nat} {v : Value} (hdg : decode cc pc = .ok (.ifnull off, 3)) (ht : (pc : Int) + off = (tgt : Int)) (hv : v = .null ∨ ∃ y, v = .ref y) (kt : v = .null → mj_W p l e R s m args below meth c Q D cl A H0 as0 X n0 z0 (tgt) loc st h) (kf : ∀ y, v = .ref y → mj_W p l e R s m args below meth c Q D cl A H0 as0 X n0 z0 (pc + 3) loc st h) : mj_W p l e R s m args below meth c Q D cl A H0 as0 X n0 z0 (pc) loc (v :: st) h := by
  intro hn hz as ls sw ws H locs ha hl hs hh hP hD hS
  rcases hv with rfl | ⟨y, rfl⟩
  · obtain ⟨s1, rfl, hs1⟩ := mj_SR_null hs
    exact lv_ifnullN hx hb hdg ht (kt rfl hn hz as ls _ ws H locs ha hl hs1 hh hP hD hS)
  · obtain ⟨a, s1, rfl, hy, hs1⟩ := mj_SR_ref hs
    exact lv_ifnull hx hb hdg (kf y rfl hn hz as ls _ ws H locs ha hl hs1 hh hP hD hS)
theorem mj_w_ifnonnull (hx : p.tables.exec = Jvm.exec) (hb : c.code = cc) {off : Int} {tgt : Nat} {v : Value} (hdg : decode cc pc = .ok (.ifnonnull off, 3)) (ht : (pc : Int) + off = (tgt : Int)) (hv : v = .null ∨ ∃ y, v = .ref y) (kt : ∀ y, v = .ref y → mj_W p l e R s m args below meth c Q D cl A H0 as0 X n0 z0 (tgt) loc st h) (kf : v = .null → mj_W p l e R s m args below meth c Q D cl A H0 as0 X n0 z0 (pc + 3) loc st h) : mj_W p l e R s m args below meth c Q D cl A H0 as0 X n0 z0 (pc) loc (v :: st) h := by
  intro hn hz as ls sw ws H locs ha hl hs hh hP hD hS
  rcases hv with rfl | ⟨y, rfl⟩
  · obtain ⟨s1, rfl, hs1⟩ := mj_SR_null hs
    exact lv_ifnonnullN hx hb hdg (kf rfl hn hz as ls _ ws H locs ha hl hs1 hh hP hD hS)
  · obtain ⟨a, s1, rfl, hy, hs1⟩ := mj_SR_ref hs
    exact lv_ifnonnull hx hb hdg ht (kt y rfl hn hz as ls _ ws H locs ha hl hs1 hh hP hD hS)
theorem mj_w_tsw (hx : p.tables.exec = Jvm.exec) (hb : c.code = cc) {dflt lo hi : Int} {offs : Array Int} {len : Nat} {x : Int32} {tg : Nat → Nat} (hdg : decode cc pc = .ok (.tableswitch dflt lo hi offs, len)) (hsz : (offs.size : Int) = hi - lo + 1) (h0 : (pc : Int) + dflt = (tg 0 : Nat)) (h1 : ∀ i off, offs[i]? = some off → (pc : Int) + off = (tg (i + 1) : Nat)) (kk : mj_W p l e R s m args below meth c Q D cl A H0 as0 X n0 z0 (tg (mj_tsw lo hi x)) loc st h) : mj_W p l e R s m args below meth c Q D cl A H0 as0 X n0 z0 (pc) loc (.int x :: st) h := by
  intro hn hz as ls sw ws H locs ha hl hs hh hP hD hS
  obtain ⟨s1, rfl, hs1⟩ := mj_SR_int hs
  have K := kk hn hz as ls _ ws H locs ha hl hs1 hh hP hD hS
  by_cases hr : x.toInt < lo ∨ hi < x.toInt
  · rw [show mj_tsw lo hi x = 0 by simp [mj_tsw, hr]] at K
    exact lv_tableOut hx hb hdg hr h0 K
  · rw [show mj_tsw lo hi x = (x.toInt - lo).toNat + 1 by simp only [mj_tsw, if_neg hr]] at K
    have hlt : (x.toInt - lo).toNat < offs.size := by omega
    exact lv_tableIn hx hb hdg (by omega) (by omega) (Array.getElem?_eq_getElem hlt) (h1 _ _ (Array.getElem?_eq_getElem hlt)) K
end MJW
