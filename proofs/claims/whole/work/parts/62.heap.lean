/-! the heap: reading, writing, making -/
theorem mj_in_vp {i : Int32} {n : Nat} (h : mj_in i n = true) : vp_in i n := vp_in_iff.mpr (of_decide_eq_true h)
theorem mj_HR_at {U : State} {as : List Nat} {X : Nat → Option Nat} {h : mj_H} {ws : va_W} {k a : Nat} {c : mj_C} (hh : mj_HR U as X h ws) (hc : h[k]? = some c) (ha : as[k]? = some a) : ∃ q, ws[k]? = some (a, q) ∧ mj_CR U as X c q := by
  obtain ⟨h1, -, h3⟩ := hh
  rw [← h1, List.getElem?_map] at ha
  cases hw : ws[k]? with
  | none => rw [hw] at ha; cases ha
  | some q =>
    rw [hw] at ha
    cases ha
    exact ⟨q.2, rfl, h3 k c q hc hw⟩
theorem mj_HR_ref {U : State} {as : List Nat} {X : Nat → Option Nat} {h : mj_H} {ws : va_W} {k : Nat} {c : mj_C} (hh : mj_HR U as X h ws) (hc : h[k]? = some c) : ∃ a q, as[k]? = some a ∧ ws[k]? = some (a, q) ∧ mj_CR U as X c q := by
  have hlt : k < ws.length := by rw [← hh.2.1]; exact (List.getElem?_eq_some_iff.mp hc).1
  have hw : ws[k]? = some ws[k] := List.getElem?_eq_getElem hlt
  refine ⟨ws[k].1, ws[k].2, ?_, hw, hh.2.2 k c _ hc hw⟩
  rw [← hh.1, List.getElem?_map, hw]
  rfl
theorem mj_CR_arr {U : State} {as : List Nat} {X : Nat → Option Nat} {t : Nat} {x : vp_A} {q : va_E} (h : mj_CR U as X (.inl (t, x)) q) : ∃ cA b, q = .inl (cA, x.1, b) ∧ mj_AR as x.2 b ∧ ArrOfT U cA (mj_ty t) ∧ va_RA U cA (mj_ty t) := by
  cases q with
  | inr q => exact h.elim
  | inl q =>
    obtain ⟨cA, n, b⟩ := q
    obtain ⟨h1, h2, h3, h4⟩ := h
    exact ⟨cA, b, by rw [h1], h2, h3, h4⟩
theorem mj_CR_obj {U : State} {as : List Nat} {X : Nat → Option Nat} {ci : Nat} {fs : List Value} {q : va_E} (h : mj_CR U as X (.inr (ci, fs)) q) : ∃ gs, q = .inr (ci, gs) ∧ mj_SR as X fs gs := by
  cases q with
  | inl q => exact h.elim
  | inr q =>
    obtain ⟨cj, gs⟩ := q
    obtain ⟨h1, h2⟩ := h
    exact ⟨gs, by rw [h1], h2⟩
theorem mj_AR_i {as : List Nat} {f : Nat → Int32} {b : (Nat → Int32) ⊕ (Nat → Int64) ⊕ (Nat → UInt32) ⊕ (Nat → UInt64) ⊕ (Nat → Option Nat)} (h : mj_AR as (.inl f) b) : b = .inl f := by
  rcases b with g | g | g | g | g
  · exact (congrArg Sum.inl (show f = g from h)).symm
  all_goals exact h.elim
theorem mj_AR_l {as : List Nat} {f : Nat → Int64} {b : (Nat → Int32) ⊕ (Nat → Int64) ⊕ (Nat → UInt32) ⊕ (Nat → UInt64) ⊕ (Nat → Option Nat)} (h : mj_AR as (.inr (.inl f)) b) : b = .inr (.inl f) := by
  rcases b with g | g | g | g | g
  · exact h.elim
  · rw [show f = g from h]
  all_goals exact h.elim
def mj_oR (as : List Nat) (r q : Option Nat) : Prop := match r with
  | none => q = none
  | some k => ∃ a, as[k]? = some a ∧ q = some a
theorem mj_AR_r {as : List Nat} {f : Nat → Option Nat} {b : (Nat → Int32) ⊕ (Nat → Int64) ⊕ (Nat → UInt32) ⊕ (Nat → UInt64) ⊕ (Nat → Option Nat)} (h : mj_AR as (.inr (.inr (.inr (.inr f)))) b) : ∃ g, b = .inr (.inr (.inr (.inr g))) ∧ ∀ j, mj_oR as (f j) (g j) := by
  rcases b with g | g | g | g | g
  all_goals first | exact h.elim | exact ⟨g, rfl, h⟩
theorem mj_SR_get {as : List Nat} {X : Nat → Option Nat} {fs gs : List Value} {k : Nat} {v : Value} (h : mj_SR as X fs gs) (hv : fs[k]? = some v) : ∃ w, gs[k]? = some w ∧ mj_mv as X v = some w := by
  have h1 : (fs.map (mj_mv as X))[k]? = (gs.map some)[k]? := by rw [show fs.map (mj_mv as X) = gs.map some from h]
  rw [List.getElem?_map, List.getElem?_map, hv] at h1
  cases hg : gs[k]? with
  | none => rw [hg] at h1; cases h1
  | some w =>
    rw [hg] at h1
    exact ⟨w, rfl, Option.some.inj h1⟩
theorem mj_SR_len {as : List Nat} {X : Nat → Option Nat} {fs gs : List Value} (h : mj_SR as X fs gs) : fs.length = gs.length := by
  have h1 := congrArg List.length (show fs.map (mj_mv as X) = gs.map some from h)
  simpa using h1
theorem mj_SR_set {as : List Nat} {X : Nat → Option Nat} {fs gs : List Value} {k : Nat} {v w : Value} (h : mj_SR as X fs gs) (hv : mj_mv as X v = some w) : mj_SR as X (fs.set k v) (gs.set k w) := by
  unfold mj_SR
  rw [List.map_set, List.map_set, hv, show fs.map (mj_mv as X) = gs.map some from h]
theorem mj_HR_set {U : State} {as : List Nat} {X : Nat → Option Nat} {h : mj_H} {ws : va_W} {k a : Nat} {c : mj_C} {q q0 : va_E} (hh : mj_HR U as X h ws) (hw : ws[k]? = some (a, q0)) (hc : mj_CR U as X c q) : mj_HR U as X (h.set k c) (ws.set k (a, q)) := by
  obtain ⟨h1, h2, h3⟩ := hh
  refine ⟨?_, by simpa using h2, fun j c' q' hj hq => ?_⟩
  · rw [← h1, List.map_set]
    apply List.ext_getElem?
    intro j
    by_cases hj : k = j
    · subst hj
      simp [List.getElem?_set, hw]
      exact (List.getElem?_eq_some_iff.mp hw).1
    · rw [List.getElem?_set_ne hj]
  · by_cases hjk : k = j
    · subst hjk
      have hl2 : k < ws.length := (List.getElem?_eq_some_iff.mp hw).1
      rw [List.getElem?_set_self (by rw [h2]; exact hl2)] at hj
      rw [List.getElem?_set_self hl2] at hq
      cases hj; cases hq
      exact hc
    · rw [List.getElem?_set_ne hjk] at hj hq
      exact h3 j c' q' hj hq
theorem mj_siz_set : ∀ {h : mj_H} {k : Nat} {c c0 : mj_C}, h[k]? = some c0 → mj_sz c = mj_sz c0 → mj_siz (h.set k c) = mj_siz h
  | [], _, _, _, hk, _ => by cases hk
  | a :: h, 0, c, c0, hk, hz => by
    cases hk
    show mj_sz c + mj_siz h = _
    rw [hz]; rfl
  | a :: h, k + 1, c, c0, hk, hz => by
    show mj_sz a + mj_siz (h.set k c) = mj_sz a + mj_siz h
    rw [mj_siz_set (h := h) (k := k) (c0 := c0) hk hz]
theorem mj_siz_app : ∀ (h : mj_H) (c : mj_C), mj_siz (h ++ [c]) = mj_siz h + mj_sz c
  | [], c => by show mj_sz c + 0 = 0 + mj_sz c; omega
  | a :: h, c => by
    show mj_sz a + mj_siz (h ++ [c]) = mj_sz a + mj_siz h + mj_sz c
    rw [mj_siz_app h c]; omega
theorem mj_pre_get {as bs : List Nat} {k a : Nat} (hp : as <+: bs) (h : as[k]? = some a) : bs[k]? = some a := by
  obtain ⟨t, rfl⟩ := hp
  rw [List.getElem?_append_left (List.getElem?_eq_some_iff.mp h).1]
  exact h
theorem mj_mv_mono {as bs : List Nat} {X : Nat → Option Nat} {v w : Value} (hp : as <+: bs) (h : mj_mv as X v = some w) : mj_mv bs X v = some w := by
  cases v <;> try exact h
  obtain ⟨a, h3, h4⟩ := Option.map_eq_some_iff.mp h
  exact Option.map_eq_some_iff.mpr ⟨a, mj_pre_get hp h3, h4⟩
theorem mj_SR_mono {as bs : List Nat} {X : Nat → Option Nat} (hp : as <+: bs) : ∀ {st sw : List Value}, mj_SR as X st sw → mj_SR bs X st sw
  | [], sw, h => by rw [mj_SR_nil h]; rfl
  | v :: st, sw, h => by
    obtain ⟨w, r', rfl, h1, h2⟩ := mj_SR_cons h
    exact mj_SR_put (mj_mv_mono hp h1) (mj_SR_mono hp h2)
theorem mj_LR_mono {as bs : List Nat} {X : Nat → Option Nat} {loc : mj_L} {ls : Array Slot} (hp : as <+: bs) (h : mj_LR as X loc ls) : mj_LR bs X loc ls :=
  ⟨h.1, h.2.1, fun k v hk => by
    obtain ⟨w, h1, h2⟩ := h.2.2 k v hk
    exact ⟨w, mj_mv_mono hp h1, h2⟩⟩
theorem mj_oR_mono {as bs : List Nat} (hp : as <+: bs) {r q : Option Nat} (h : mj_oR as r q) : mj_oR bs r q := by
  cases r with
  | none => exact h
  | some k =>
    obtain ⟨a, h1, h2⟩ := h
    exact ⟨a, mj_pre_get hp h1, h2⟩
theorem mj_CR_mono {U : State} {as bs : List Nat} {X : Nat → Option Nat} {c : mj_C} {q : va_E} (hp : as <+: bs) (h : mj_CR U as X c q) : mj_CR U bs X c q := by
  cases c with
  | inr c =>
    obtain ⟨gs, rfl, h2⟩ := mj_CR_obj (ci := c.1) (fs := c.2) h
    exact ⟨rfl, mj_SR_mono hp h2⟩
  | inl c =>
    obtain ⟨t, n, x⟩ := c
    obtain ⟨cA, b, rfl, h2, h3, h4⟩ := mj_CR_arr h
    refine ⟨rfl, ?_, h3, h4⟩
    rcases x with x | x | x | x | x
    · rw [mj_AR_i h2]; exact rfl
    · rw [mj_AR_l h2]; exact rfl
    · rcases b with b | b | b | b | b <;> exact h2.elim
    · rcases b with b | b | b | b | b <;> exact h2.elim
    · obtain ⟨g, rfl, h5⟩ := mj_AR_r h2
      exact fun j => mj_oR_mono hp (h5 j)
theorem mj_HR_app {U : State} {as : List Nat} {X : Nat → Option Nat} {h : mj_H} {ws : va_W} {a : Nat} {c : mj_C} {q : va_E} (hh : mj_HR U as X h ws) (hc : mj_CR U (as ++ [a]) X c q) : mj_HR U (as ++ [a]) X (h ++ [c]) (ws ++ [(a, q)]) := by
  obtain ⟨h1, h2, h3⟩ := hh
  refine ⟨by rw [List.map_append, h1]; rfl, by simp [h2], fun j c' q' hj hq => ?_⟩
  by_cases hlt : j < h.length
  · rw [List.getElem?_append_left hlt] at hj
    rw [List.getElem?_append_left (by omega)] at hq
    exact mj_CR_mono (List.prefix_append as [a]) (h3 j c' q' hj hq)
  · rw [List.getElem?_append_right (by omega)] at hj hq
    have hz : j - h.length < 1 := (List.getElem?_eq_some_iff.mp hj).1
    rw [show j - h.length = 0 by omega] at hj
    rw [show j - ws.length = 0 by omega] at hq
    cases hj; cases hq
    exact hc
theorem mj_CR_mk {U : State} {as : List Nat} {X : Nat → Option Nat} {t : Nat} {x y : vp_A} {cA : ClassId} (h1 : x.1 = y.1) (h2 : mj_AR as x.2 y.2) (h3 : ArrOfT U cA (mj_ty t)) (h4 : va_RA U cA (mj_ty t)) : mj_CR U as X (.inl (t, x)) (.inl (cA, y)) := ⟨h1, h2, h3, h4⟩
theorem mj_K1 {D : va_G} {cl : List vw_C} {U : State} {cA : ClassId} {ty : FieldType} (hK : va_K D cl [] U) (h1 : ArrOfT U cA ty) (h2 : va_RA U cA ty) : va_K D cl [(cA, ty)] U := by
  refine ⟨hK.1, fun k q hq => ?_⟩
  have hz : k < 1 := (List.getElem?_eq_some_iff.mp hq).1
  rw [show k = 0 by omega] at hq
  cases hq
  exact ⟨h1, h2⟩
section MJW
variable {p : Program} {l : Launch} {e : Env} {R : Room} {s : State} {m : MethodId} {args : Array Value} {below : List Frame} {meth : Method} {c : Code} {Q : State → Prop} {D : va_G} {cl : List vw_C} {A : Nat → Prop} {H0 : Heap} {as0 : List Nat} {X : Nat → Option Nat} {n0 z0 : Nat}
variable {cc : ByteArray} {pc : Nat} {loc loc' : mj_L} {st st' : List Value} {h h' : mj_H}
theorem mj_w_iaload (hx : p.tables.exec = Jvm.exec) (hb : c.code = cc) {E : mj_E} (hK : va_K D cl [] s) (hX : mj_XR s X E A H0) (hH : H0 = s.heap) (hE1 : ∀ k n f, E k ≠ some (1, n, f)) (hdg : decode cc pc = .ok (.iaload, 1)) (hex : mj_ald E 0 st h = some st') (k : mj_W p l e R s m args below meth c Q D cl A H0 as0 X n0 z0 (pc + 1) loc st' h) : mj_W p l e R s m args below meth c Q D cl A H0 as0 X n0 z0 (pc) loc st h := by
  unfold mj_ald at hex
  split at hex
  · rename_i i q r
    split at hex
    · rename_i t' n f hc
      split at hex
      · rename_i hin
        obtain ⟨rfl, hin⟩ := hin
        cases hex
        intro hn hz as ls sw ws H locs ha hl hs hh hP hD hS
        obtain ⟨s1, rfl, hs1⟩ := mj_SR_int hs
        obtain ⟨a, s2, rfl, hq, hs2⟩ := mj_SR_ref hs1
        obtain ⟨e2, hw, hcr⟩ := mj_HR_at hh hc hq
        obtain ⟨cA, b, rfl, har, ht1, ht2⟩ := mj_CR_arr hcr
        rw [mj_AR_i har] at hw
        exact va_iald hx hb (mj_K1 hK ht1 ht2) hP q 0 hw rfl (mj_in_vp hin) hdg (k hn hz as ls _ ws H locs ha hl (mj_SR_put rfl hs2) hh hP hD hS)
      · cases hex
    · cases hex
  · rename_i i q r
    split at hex
    · rename_i te n f hc
      split at hex
      · rename_i hin
        obtain ⟨rfl, hin⟩ := hin
        cases hex
        subst hH
        intro hn hz as ls sw ws H locs ha hl hs hh hP hD hS
        obtain ⟨s1, rfl, hs1⟩ := mj_SR_int hs
        obtain ⟨a, s2, rfl, hq, hs2⟩ := mj_SR_ext hs1
        obtain ⟨b, hb1, hb2⟩ := hX _ _ _ _ hc
        rw [hq] at hb1
        cases hb1
        exact va_ti hx hb hb2 hS (mj_in_vp hin) rfl hdg (k hn hz as ls _ ws H locs ha hl (mj_SR_put rfl hs2) hh hP hD hS)
      · cases hex
    · cases hex
  · cases hex
theorem mj_w_caload (hx : p.tables.exec = Jvm.exec) (hb : c.code = cc) {E : mj_E} (hK : va_K D cl [] s) (hX : mj_XR s X E A H0) (hH : H0 = s.heap) (hE1 : ∀ k n f, E k ≠ some (1, n, f)) (hdg : decode cc pc = .ok (.caload, 1)) (hex : mj_ald E 1 st h = some st') (k : mj_W p l e R s m args below meth c Q D cl A H0 as0 X n0 z0 (pc + 1) loc st' h) : mj_W p l e R s m args below meth c Q D cl A H0 as0 X n0 z0 (pc) loc st h := by
  unfold mj_ald at hex
  split at hex
  · rename_i i q r
    split at hex
    · rename_i t' n f hc
      split at hex
      · rename_i hin
        obtain ⟨rfl, hin⟩ := hin
        cases hex
        intro hn hz as ls sw ws H locs ha hl hs hh hP hD hS
        obtain ⟨s1, rfl, hs1⟩ := mj_SR_int hs
        obtain ⟨a, s2, rfl, hq, hs2⟩ := mj_SR_ref hs1
        obtain ⟨e2, hw, hcr⟩ := mj_HR_at hh hc hq
        obtain ⟨cA, b, rfl, har, ht1, ht2⟩ := mj_CR_arr hcr
        rw [mj_AR_i har] at hw
        exact va_cald hx hb (mj_K1 hK ht1 ht2) hP q 0 hw rfl (mj_in_vp hin) hdg (k hn hz as ls _ ws H locs ha hl (mj_SR_put rfl hs2) hh hP hD hS)
      · cases hex
    · cases hex
  · rename_i i q r
    split at hex
    · rename_i te n f hc
      split at hex
      · rename_i hin
        obtain ⟨rfl, -⟩ := hin
        exact absurd hc (hE1 _ _ _)
      · cases hex
    · cases hex
  · cases hex
theorem mj_w_baload (hx : p.tables.exec = Jvm.exec) (hb : c.code = cc) {E : mj_E} (hK : va_K D cl [] s) (hX : mj_XR s X E A H0) (hH : H0 = s.heap) (hE1 : ∀ k n f, E k ≠ some (1, n, f)) (hdg : decode cc pc = .ok (.baload, 1)) (hex : mj_ald E 2 st h = some st') (k : mj_W p l e R s m args below meth c Q D cl A H0 as0 X n0 z0 (pc + 1) loc st' h) : mj_W p l e R s m args below meth c Q D cl A H0 as0 X n0 z0 (pc) loc st h := by
  unfold mj_ald at hex
  split at hex
  · rename_i i q r
    split at hex
    · rename_i t' n f hc
      split at hex
      · rename_i hin
        obtain ⟨rfl, hin⟩ := hin
        cases hex
        intro hn hz as ls sw ws H locs ha hl hs hh hP hD hS
        obtain ⟨s1, rfl, hs1⟩ := mj_SR_int hs
        obtain ⟨a, s2, rfl, hq, hs2⟩ := mj_SR_ref hs1
        obtain ⟨e2, hw, hcr⟩ := mj_HR_at hh hc hq
        obtain ⟨cA, b, rfl, har, ht1, ht2⟩ := mj_CR_arr hcr
        rw [mj_AR_i har] at hw
        exact va_zald hx hb (mj_K1 hK ht1 ht2) hP q 0 hw rfl (mj_in_vp hin) hdg (k hn hz as ls _ ws H locs ha hl (mj_SR_put rfl hs2) hh hP hD hS)
      · cases hex
    · cases hex
  · rename_i i q r
    split at hex
    · rename_i te n f hc
      split at hex
      · rename_i hin
        obtain ⟨rfl, hin⟩ := hin
        cases hex
        subst hH
        intro hn hz as ls sw ws H locs ha hl hs hh hP hD hS
        obtain ⟨s1, rfl, hs1⟩ := mj_SR_int hs
        obtain ⟨a, s2, rfl, hq, hs2⟩ := mj_SR_ext hs1
        obtain ⟨b, hb1, hb2⟩ := hX _ _ _ _ hc
        rw [hq] at hb1
        cases hb1
        exact va_tb hx hb hb2 hS (mj_in_vp hin) rfl hdg (k hn hz as ls _ ws H locs ha hl (mj_SR_put rfl hs2) hh hP hD hS)
      · cases hex
    · cases hex
  · cases hex
theorem mj_w_laload (hx : p.tables.exec = Jvm.exec) (hb : c.code = cc) (hK : va_K D cl [] s) (hdg : decode cc pc = .ok (.laload, 1)) (hex : mj_lald st h = some st') (k : mj_W p l e R s m args below meth c Q D cl A H0 as0 X n0 z0 (pc + 1) loc st' h) : mj_W p l e R s m args below meth c Q D cl A H0 as0 X n0 z0 (pc) loc st h := by
  unfold mj_lald at hex
  split at hex
  · rename_i i q r
    split at hex
    · rename_i t' n f hc
      split at hex
      · rename_i hin
        obtain ⟨rfl, hin⟩ := hin
        cases hex
        intro hn hz as ls sw ws H locs ha hl hs hh hP hD hS
        obtain ⟨s1, rfl, hs1⟩ := mj_SR_int hs
        obtain ⟨a, s2, rfl, hq, hs2⟩ := mj_SR_ref hs1
        obtain ⟨e2, hw, hcr⟩ := mj_HR_at hh hc hq
        obtain ⟨cA, b, rfl, har, ht1, ht2⟩ := mj_CR_arr hcr
        rw [mj_AR_l har] at hw
        exact va_lald hx hb (mj_K1 hK ht1 ht2) hP q 0 hw rfl (mj_in_vp hin) hdg (k hn hz as ls _ ws H locs ha hl (mj_SR_put rfl hs2) hh hP hD hS)
      · cases hex
    · cases hex
  · cases hex
theorem mj_rf_mv {as : List Nat} {X : Nat → Option Nat} {r q : Option Nat} (h : mj_oR as r q) : mj_mv as X (mj_rf r) = some (va_rf q) := by
  cases r with
  | none => rw [show q = none from h]; rfl
  | some k =>
    obtain ⟨a, h1, rfl⟩ := h
    exact Option.map_eq_some_iff.mpr ⟨a, h1, rfl⟩
theorem mj_w_aaload (hx : p.tables.exec = Jvm.exec) (hb : c.code = cc) (hK : va_K D cl [] s) (hdg : decode cc pc = .ok (.aaload, 1)) (hex : mj_aald st h = some st') (k : mj_W p l e R s m args below meth c Q D cl A H0 as0 X n0 z0 (pc + 1) loc st' h) : mj_W p l e R s m args below meth c Q D cl A H0 as0 X n0 z0 (pc) loc st h := by
  unfold mj_aald at hex
  split at hex
  · rename_i i q r
    split at hex
    · rename_i t' n f hc
      split at hex
      · rename_i hin
        obtain ⟨rfl, hin⟩ := hin
        cases hex
        intro hn hz as ls sw ws H locs ha hl hs hh hP hD hS
        obtain ⟨s1, rfl, hs1⟩ := mj_SR_int hs
        obtain ⟨a, s2, rfl, hq, hs2⟩ := mj_SR_ref hs1
        obtain ⟨e2, hw, hcr⟩ := mj_HR_at hh hc hq
        obtain ⟨cA, b, rfl, har, ht1, ht2⟩ := mj_CR_arr hcr
        obtain ⟨g, rfl, hg⟩ := mj_AR_r har
        exact va_aldq hx hb (mj_K1 hK ht1 ht2) hP q 0 hw rfl (mj_in_vp hin) hdg (k hn hz as ls _ ws H locs ha hl (mj_SR_put (mj_rf_mv (hg _)) hs2) hh hP hD hS)
      · cases hex
    · cases hex
  · cases hex
theorem mj_W_same {h1 : mj_H} (h1l : h1.length = h.length) (h1z : mj_siz h1 = mj_siz h) {pc' : Nat} (k : mj_W p l e R s m args below meth c Q D cl A H0 as0 X n0 z0 (pc') loc st' h1) : n0 ≤ h.length → z0 ≤ mj_siz h → ∀ (as : List Nat) (ls : Array Slot) (sw : List Value) (ws : va_W) (H : Heap) (locs : List Loc), as0 <+: as → mj_LR as X loc ls → mj_SR as X st' sw → mj_HR s as X h1 ws → va_P D cl ws H → va_D A ws → va_S A H0 H locs → W p l e R s m args below meth c H locs (h.length - n0) (mj_siz h - z0) Q (F0 m pc' ls sw) := by
  intro hn hz as ls sw ws H locs ha hl hs hh hP hD hS
  have K := k (by rw [h1l]; exact hn) (by rw [h1z]; exact hz) as ls sw ws H locs ha hl hs hh hP hD hS
  rw [h1l, h1z] at K
  exact K
theorem mj_w_iastore (hx : p.tables.exec = Jvm.exec) (hb : c.code = cc) (hK : va_K D cl [] s) (hdg : decode cc pc = .ok (.iastore, 1)) (hex : mj_ast 0 st h = some (st', h')) (k : mj_W p l e R s m args below meth c Q D cl A H0 as0 X n0 z0 (pc + 1) loc st' h') : mj_W p l e R s m args below meth c Q D cl A H0 as0 X n0 z0 (pc) loc st h := by
  unfold mj_ast at hex
  split at hex
  · rename_i x i q r
    split at hex
    · rename_i t' n f hc
      split at hex
      · rename_i hin
        obtain ⟨rfl, hin⟩ := hin
        cases hex
        intro hn hz as ls sw ws H locs ha hl hs hh hP hD hS
        obtain ⟨s0, rfl, hs0⟩ := mj_SR_int hs
        obtain ⟨s1, rfl, hs1⟩ := mj_SR_int hs0
        obtain ⟨a, s2, rfl, hq, hs2⟩ := mj_SR_ref hs1
        obtain ⟨e2, hw, hcr⟩ := mj_HR_at hh hc hq
        obtain ⟨cA, b, rfl, har, ht1, ht2⟩ := mj_CR_arr hcr
        rw [mj_AR_i har] at hw
        exact va_iast hx hb (mj_K1 hK ht1 ht2) hP hD hS q 0 hw rfl (mj_in_vp hin) hdg (fun H1 locs1 hP1 hD1 hS1 => mj_W_same (by simp) (by exact mj_siz_set hc rfl) k hn hz as ls _ _ H1 locs1 ha hl hs2 (mj_HR_set hh hw (by exact mj_CR_mk rfl (rfl) ht1 ht2)) hP1 hD1 hS1)
      · cases hex
    · cases hex
  · cases hex
theorem mj_w_castore (hx : p.tables.exec = Jvm.exec) (hb : c.code = cc) (hK : va_K D cl [] s) (hdg : decode cc pc = .ok (.castore, 1)) (hex : mj_ast 1 st h = some (st', h')) (k : mj_W p l e R s m args below meth c Q D cl A H0 as0 X n0 z0 (pc + 1) loc st' h') : mj_W p l e R s m args below meth c Q D cl A H0 as0 X n0 z0 (pc) loc st h := by
  unfold mj_ast at hex
  split at hex
  · rename_i x i q r
    split at hex
    · rename_i t' n f hc
      split at hex
      · rename_i hin
        obtain ⟨rfl, hin⟩ := hin
        cases hex
        intro hn hz as ls sw ws H locs ha hl hs hh hP hD hS
        obtain ⟨s0, rfl, hs0⟩ := mj_SR_int hs
        obtain ⟨s1, rfl, hs1⟩ := mj_SR_int hs0
        obtain ⟨a, s2, rfl, hq, hs2⟩ := mj_SR_ref hs1
        obtain ⟨e2, hw, hcr⟩ := mj_HR_at hh hc hq
        obtain ⟨cA, b, rfl, har, ht1, ht2⟩ := mj_CR_arr hcr
        rw [mj_AR_i har] at hw
        exact va_cast hx hb (mj_K1 hK ht1 ht2) hP hD hS q 0 hw rfl (mj_in_vp hin) hdg (fun H1 locs1 hP1 hD1 hS1 => mj_W_same (by simp) (by exact mj_siz_set hc rfl) k hn hz as ls _ _ H1 locs1 ha hl hs2 (mj_HR_set hh hw (by exact mj_CR_mk rfl (rfl) ht1 ht2)) hP1 hD1 hS1)
      · cases hex
    · cases hex
  · cases hex
theorem mj_w_bastore (hx : p.tables.exec = Jvm.exec) (hb : c.code = cc) (hK : va_K D cl [] s) (hdg : decode cc pc = .ok (.bastore, 1)) (hex : mj_ast 2 st h = some (st', h')) (k : mj_W p l e R s m args below meth c Q D cl A H0 as0 X n0 z0 (pc + 1) loc st' h') : mj_W p l e R s m args below meth c Q D cl A H0 as0 X n0 z0 (pc) loc st h := by
  unfold mj_ast at hex
  split at hex
  · rename_i x i q r
    split at hex
    · rename_i t' n f hc
      split at hex
      · rename_i hin
        obtain ⟨rfl, hin⟩ := hin
        cases hex
        intro hn hz as ls sw ws H locs ha hl hs hh hP hD hS
        obtain ⟨s0, rfl, hs0⟩ := mj_SR_int hs
        obtain ⟨s1, rfl, hs1⟩ := mj_SR_int hs0
        obtain ⟨a, s2, rfl, hq, hs2⟩ := mj_SR_ref hs1
        obtain ⟨e2, hw, hcr⟩ := mj_HR_at hh hc hq
        obtain ⟨cA, b, rfl, har, ht1, ht2⟩ := mj_CR_arr hcr
        rw [mj_AR_i har] at hw
        exact va_zast hx hb (mj_K1 hK ht1 ht2) hP hD hS q 0 hw rfl (mj_in_vp hin) hdg (fun H1 locs1 hP1 hD1 hS1 => mj_W_same (by simp) (by exact mj_siz_set hc rfl) k hn hz as ls _ _ H1 locs1 ha hl hs2 (mj_HR_set hh hw (by exact mj_CR_mk rfl (rfl) ht1 ht2)) hP1 hD1 hS1)
      · cases hex
    · cases hex
  · cases hex
theorem mj_w_lastore (hx : p.tables.exec = Jvm.exec) (hb : c.code = cc) (hK : va_K D cl [] s) (hdg : decode cc pc = .ok (.lastore, 1)) (hex : mj_last st h = some (st', h')) (k : mj_W p l e R s m args below meth c Q D cl A H0 as0 X n0 z0 (pc + 1) loc st' h') : mj_W p l e R s m args below meth c Q D cl A H0 as0 X n0 z0 (pc) loc st h := by
  unfold mj_last at hex
  split at hex
  · rename_i x i q r
    split at hex
    · rename_i t' n f hc
      split at hex
      · rename_i hin
        obtain ⟨rfl, hin⟩ := hin
        cases hex
        intro hn hz as ls sw ws H locs ha hl hs hh hP hD hS
        obtain ⟨s0, rfl, hs0⟩ := mj_SR_long hs
        obtain ⟨s1, rfl, hs1⟩ := mj_SR_int hs0
        obtain ⟨a, s2, rfl, hq, hs2⟩ := mj_SR_ref hs1
        obtain ⟨e2, hw, hcr⟩ := mj_HR_at hh hc hq
        obtain ⟨cA, b, rfl, har, ht1, ht2⟩ := mj_CR_arr hcr
        rw [mj_AR_l har] at hw
        exact va_last hx hb (mj_K1 hK ht1 ht2) hP hD hS q 0 hw rfl (mj_in_vp hin) hdg (fun H1 locs1 hP1 hD1 hS1 => mj_W_same (by simp) (by exact mj_siz_set hc rfl) k hn hz as ls _ _ H1 locs1 ha hl hs2 (mj_HR_set hh hw (by exact mj_CR_mk rfl rfl ht1 ht2)) hP1 hD1 hS1)
      · cases hex
    · cases hex
  · cases hex
theorem mj_oR_up {as : List Nat} {f g : Nat → Option Nat} {i : Nat} {r q : Option Nat} (h : ∀ j, mj_oR as (f j) (g j)) (hr : mj_oR as r q) : ∀ j, mj_oR as (va_up f i r j) (va_up g i q j) := by
  intro j
  unfold va_up
  by_cases hj : j = i
  · rw [if_pos hj, if_pos hj]; exact hr
  · rw [if_neg hj, if_neg hj]; exact h j
theorem mj_w_aastore (hx : p.tables.exec = Jvm.exec) (hb : c.code = cc) (hK : va_K D cl [] s) {ci : Nat} {T : u_T} {N : Nat} (hc : cl[ci]? = some ("FarSide$Text", T, N)) (hdg : decode cc pc = .ok (.aastore, 1)) (hex : mj_aast ci st h = some (st', h')) (k : mj_W p l e R s m args below meth c Q D cl A H0 as0 X n0 z0 (pc + 1) loc st' h') : mj_W p l e R s m args below meth c Q D cl A H0 as0 X n0 z0 (pc) loc st h := by
  unfold mj_aast at hex
  split at hex
  · rename_i i q r
    split at hex
    · rename_i t' n f hcc
      split at hex
      · rename_i hin
        obtain ⟨rfl, hin⟩ := hin
        cases hex
        intro hn hz as ls sw ws H locs ha hl hs hh hP hD hS
        obtain ⟨s0, rfl, hs0⟩ := mj_SR_null hs
        obtain ⟨s1, rfl, hs1⟩ := mj_SR_int hs0
        obtain ⟨a, s2, rfl, hq, hs2⟩ := mj_SR_ref hs1
        obtain ⟨e2, hw, hcr⟩ := mj_HR_at hh hcc hq
        obtain ⟨cA, b, rfl, har, ht1, ht2⟩ := mj_CR_arr hcr
        obtain ⟨g, rfl, hg⟩ := mj_AR_r har
        exact va_astqN hx hb (mj_K1 hK ht1 ht2) hP hD hS q 0 hw rfl (mj_in_vp hin) hdg (fun H1 locs1 hP1 hD1 hS1 => mj_W_same (by simp) (by exact mj_siz_set hcc rfl) k hn hz as ls _ _ H1 locs1 ha hl hs2 (mj_HR_set hh hw (by exact mj_CR_mk rfl (mj_oR_up hg rfl) ht1 ht2)) hP1 hD1 hS1)
      · cases hex
    · cases hex
  · rename_i qq i q r
    split at hex
    · rename_i t' n f c' fs' hcc hcq
      split at hex
      · rename_i hin
        obtain ⟨rfl, rfl, hin⟩ := hin
        cases hex
        intro hn hz as ls sw ws H locs ha hl hs hh hP hD hS
        obtain ⟨av, s0, rfl, hqv, hs0⟩ := mj_SR_ref hs
        obtain ⟨s1, rfl, hs1⟩ := mj_SR_int hs0
        obtain ⟨a, s2, rfl, hq, hs2⟩ := mj_SR_ref hs1
        obtain ⟨e2, hw, hcr⟩ := mj_HR_at hh hcc hq
        obtain ⟨cA, b, rfl, har, ht1, ht2⟩ := mj_CR_arr hcr
        obtain ⟨g, rfl, hg⟩ := mj_AR_r har
        obtain ⟨e3, hwv, hcv⟩ := mj_HR_at hh hcq hqv
        obtain ⟨gs, rfl, -⟩ := mj_CR_obj hcv
        exact va_astq hx hb (mj_K1 hK ht1 ht2) hP hD hS q 0 qq _ hw rfl hwv hc (mj_in_vp hin) hdg (fun H1 locs1 hP1 hD1 hS1 => mj_W_same (by simp) (by exact mj_siz_set hcc rfl) k hn hz as ls _ _ H1 locs1 ha hl hs2 (mj_HR_set hh hw (by exact mj_CR_mk rfl (mj_oR_up hg ⟨av, hqv, rfl⟩) ht1 ht2)) hP1 hD1 hS1)
      · cases hex
    · cases hex
  · cases hex
theorem mj_w_alen (hx : p.tables.exec = Jvm.exec) (hb : c.code = cc) {E : mj_E} (hK : va_K D cl [] s) (hX : mj_XR s X E A H0) (hH : H0 = s.heap) (hdg : decode cc pc = .ok (.arraylength, 1)) (hex : mj_alen E st h = some st') (k : mj_W p l e R s m args below meth c Q D cl A H0 as0 X n0 z0 (pc + 1) loc st' h) : mj_W p l e R s m args below meth c Q D cl A H0 as0 X n0 z0 (pc) loc st h := by
  unfold mj_alen at hex
  split at hex
  · rename_i q r
    split at hex
    · rename_i t' x hc
      cases hex
      intro hn hz as ls sw ws H locs ha hl hs hh hP hD hS
      obtain ⟨a, s2, rfl, hq, hs2⟩ := mj_SR_ref hs
      obtain ⟨e2, hw, hcr⟩ := mj_HR_at hh hc hq
      obtain ⟨cA, b, rfl, har, ht1, ht2⟩ := mj_CR_arr hcr
      exact va_alen hx hb (mj_K1 hK ht1 ht2) hP q 0 hw rfl rfl hdg (k hn hz as ls _ ws H locs ha hl (mj_SR_put rfl hs2) hh hP hD hS)
    · cases hex
  · rename_i q r
    split at hex
    · rename_i te n f hc
      cases hex
      subst hH
      intro hn hz as ls sw ws H locs ha hl hs hh hP hD hS
      obtain ⟨a, s2, rfl, hq, hs2⟩ := mj_SR_ext hs
      obtain ⟨b, hb1, hb2⟩ := hX _ _ _ _ hc
      rw [hq] at hb1
      cases hb1
      exact va_tlen hx hb hb2 hS rfl hdg (k hn hz as ls _ ws H locs ha hl (mj_SR_put rfl hs2) hh hP hD hS)
    · cases hex
  · cases hex
end MJW
