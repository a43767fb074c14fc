/-! calls: what a method's contract is in the small machine's words, and how a call goes on -/
/-- what lies outside and stays: the row of inverses, the two texts -/
def mj_ZR (U : State) (X : Nat → Option Nat) (A : Nat → Prop) (H : Heap) : Prop := (∃ q, X 1 = some q ∧ va_Z "FarSide$Ledger" "INVERSES" "[I" (.ref q) A U H) ∧ (∃ adK adV : Nat → Nat, X 2 = some (adK 0) ∧ X 3 = some (adK 1) ∧ X 4 = some (adV 0) ∧ X 5 = some (adV 1) ∧ vk_R "FarSide$Tape" 68 mj_t2 (adK 0) U ∧ vk_R "FarSide$Tape" 75 mj_t3 (adK 1) U ∧ vk_S 2 mj_len mj_byt adK adV A U H) ∧
  va_Z "java/lang/String" "COMPACT_STRINGS" "Z" (.int 1) A U H ∧ (∃ q, X 9 = some q ∧ va_Z "jdk/internal/util/Preconditions" "SIOOBE_FORMATTER" "Ljava/util/function/BiFunction;" (mj_sx q) A U H) ∧ va_Nw (.castable "[I" "java/lang/Cloneable") U
theorem mj_ZR_to {s U : State} {X : Nat → Option Nat} {A B : Nat → Prop} {H0 H : Heap} (hW : s.WarmedH U.vm) (hH : ∀ a : Nat, a < H0.size → ¬ A a → H[a]? = H0[a]?) (hAB : ∀ q, B q → A q) (h : mj_ZR s X A H0) : mj_ZR U X B H := by
  obtain ⟨⟨q, h1, h2⟩, ⟨adK, adV, h3, h4, h3b, h4b, h5, h6, h7⟩, h8, ⟨q9, h9, h10⟩, h11⟩ := h
  exact ⟨⟨q, h1, ((va_Z.moved hW.alike h2).kept hH).narrow hAB⟩, ⟨adK, adV, h3, h4, h3b, h4b, vk_R.warm hW h5, vk_R.warm hW h6, ((vk_S.moved hW.alike h7).kept hH).narrow hAB⟩, ((va_Z.moved hW.alike h8).kept hH).narrow hAB, ⟨q9, h9, ((va_Z.moved hW.alike h10).kept hH).narrow hAB⟩, va_Nw.warmC hW h11⟩
theorem mj_ZR_same {u U : State} {X : Nat → Option Nat} {A : Nat → Prop} {H : Heap} (hv : U.vm = u.vm) (h : mj_ZR u X A H) : mj_ZR U X A H := by
  obtain ⟨⟨q, h1, h2⟩, ⟨adK, adV, h3, h4, h3b, h4b, h5, h6, h7⟩, h8, ⟨q9, h9, h10⟩, h11⟩ := h
  have hal : u.vm.Alike U.vm := by rw [hv]; exact Vm.Alike.refl _
  exact ⟨⟨q, h1, va_Z.moved hal h2⟩, ⟨adK, adV, h3, h4, h3b, h4b, vk_R.same hv h5, vk_R.same hv h6, vk_S.moved hal h7⟩, va_Z.moved hal h8, ⟨q9, h9, va_Z.moved hal h10⟩, va_Nw.same rfl hv.symm h11⟩
theorem mj_XR_to {s U : State} {X : Nat → Option Nat} {E : mj_E} {A B : Nat → Prop} {H0 H : Heap} (hal : s.vm.Alike U.vm) (hsz : H0.size ≤ H.size) (hH : ∀ a : Nat, a < H0.size → ¬ A a → H[a]? = H0[a]?) (hAB : ∀ q, B q → A q) (h : mj_XR s X E A H0) : mj_XR U X E B H := by
  intro k t n f hk
  obtain ⟨b, h1, h2⟩ := h k t n f hk
  exact ⟨b, h1, ((va_T.moved hal h2).kept hH).narrow hAB⟩
theorem mj_CR_moved {u U : State} {as : List Nat} {X : Nat → Option Nat} {c : mj_C} {q : va_E} (hal : u.vm.Alike U.vm) (h : mj_CR u as X c q) : mj_CR U as X c q := by
  cases c with
  | inr c =>
    obtain ⟨gs, rfl, h2⟩ := mj_CR_obj (ci := c.1) (fs := c.2) h
    exact ⟨rfl, h2⟩
  | inl c =>
    obtain ⟨t, x⟩ := c
    obtain ⟨cA, b, rfl, h2, h3, h4⟩ := mj_CR_arr h
    exact mj_CR_mk rfl h2 (arrOfT_moved hal h3) (h4.moved hal)
theorem mj_HR_moved {u U : State} {as : List Nat} {X : Nat → Option Nat} {h : mj_H} {ws : va_W} (hal : u.vm.Alike U.vm) (hh : mj_HR u as X h ws) : mj_HR U as X h ws := ⟨hh.1, hh.2.1, fun k c q h1 h2 => mj_CR_moved hal (hh.2.2 k c q h1 h2)⟩
def mj_oV (as : List Nat) (X : Nat → Option Nat) (r rv : Option Value) : Prop := match r with
  | none => rv = none
  | some v => ∃ w, rv = some w ∧ mj_mv as X v = some w
def mj_Pre (D : va_G) (cl : List vw_C) (X : Nat → Option Nat) (E : mj_E) (as : List Nat) (w0 : va_W) (sz : Nat) (h : mj_H) (U : State) : Prop := U.heap.size = sz ∧ va_P D cl w0 U.heap ∧ va_K D cl [] U ∧ va_D (fun _ => True) w0 ∧ mj_HR U as X h w0 ∧ mj_XR U X E (va_A w0 sz) U.heap ∧ mj_ZR U X (va_A w0 sz) U.heap ∧ ∀ k n f, E k ≠ some (1, n, f)
def mj_Post (D : va_G) (cl : List vw_C) (X : Nat → Option Nat) (as : List Nat) (w0 : va_W) (sz : Nat) (h' : mj_H) (r : Option Value) : Array Value → State → Outcome → State → Prop := fun _ st oc t => (∃ (rv : Option Value) (as' : List Nat) (w' : va_W), oc = .returned rv ∧ mj_oV as' X r rv ∧ as <+: as' ∧ mj_HR t as' X h' w' ∧ va_P D cl w' t.heap ∧ va_D (va_A w0 sz) w') ∧ va_F (va_A w0 sz) st t
def mj_rm (d mc ms : Nat) : Room := { frames := d + 1, cells := mc, slots := ms, locals := 64 * (d + 1) }
/-- the contract of a method that answers r and leaves h' where it is called at av over h -/
def mj_Met (l : Launch) (D : va_G) (cl : List vw_C) (X : Nat → Option Nat) (E : mj_E) (y : MethodName) (ws : List Jvm.Cond) (d : Nat) (av : List Value) (h : mj_H) (r : Option Value) (h' : mj_H) : Prop :=
  ∀ (as : List Nat) (w0 : va_W) (sw : List Value) (sz : Nat), mj_SR as X av sw → Met l y ws (mj_rm d (h'.length - h.length) (mj_siz h' - mj_siz h)) (va_Pc sw (mj_Pre D cl X E as w0 sz h)) (mj_Post D cl X as w0 sz h' r) (h'.length - h.length) (mj_siz h' - mj_siz h) (va_A w0 sz)
theorem mj_blind {D : va_G} {cl : List vw_C} {X : Nat → Option Nat} {E : mj_E} {as : List Nat} {w0 : va_W} {sz : Nat} {h : mj_H} {sw : List Value} : FrameBlind (va_Pc sw (mj_Pre D cl X E as w0 sz h)) := by
  intro a U g mk q
  obtain ⟨q0, q1, q2, q3, q4, q5, q6, q7, q8⟩ := q
  have hv : (U.calling g mk a).vm = U.vm := rfl
  have hh : (U.calling g mk a).heap = U.heap := rfl
  have hal : U.vm.Alike (U.calling g mk a).vm := Vm.Alike.refl U.vm
  exact ⟨q0, q1, q2, va_K.moved hal q3, q4, mj_HR_moved hal q5, mj_XR_to (H0 := U.heap) hal (Nat.le_refl _) (fun _ _ _ => rfl) (fun _ z => z) q6, mj_ZR_same hv q7, q8⟩
theorem mj_pay {w : Jvm.Cond} (hg : mj_good w = true) {args : Array Value} {s : State} (hb : w.before args s = true) (a' : Array Value) (U : State) (hW : s.WarmedH U.vm) : w.before a' U = true := by
  by_cases hgw : goodWord w = true
  · exact word_at hW (good_of_word hgw) hb
  · unfold mj_good at hg
    split at hg
    · exact va_Nw.use rfl (va_Nw.warmF hW (va_Nw.of rfl hb))
    · exact va_Nw.use rfl (va_Nw.warmM hW (va_Nw.of rfl hb))
    · exact (va_AO.of hb).moved hW.alike
    · exact absurd hg hgw
theorem mj_payT {args : Array Value} {s : State} (hts : ∀ w ∈ mj_Ts, w.before args s = true) : ∀ w ∈ mj_Ts, ∀ (a' : Array Value) (U : State), s.WarmedH U.vm → w.before a' U = true :=
  fun w hw a' U hW => mj_pay (List.mem_filter.mp hw).2 (hts w hw) a' U hW
theorem mj_pop_app : ∀ {n : Nat} {st acc as r : List Value}, mj_pop n st acc = some (as, r) → ∃ bs, bs.length = n ∧ as = bs.reverse ++ acc ∧ st = bs ++ r
  | 0, st, acc, as, r, h => by
    cases h
    exact ⟨[], rfl, rfl, rfl⟩
  | n + 1, [], acc, as, r, h => by cases h
  | n + 1, v :: st, acc, as, r, h => by
    obtain ⟨bs, h1, h2, h3⟩ := mj_pop_app (n := n) (st := st) (acc := v :: acc) h
    exact ⟨v :: bs, by simp [h1], by rw [h2]; simp, by rw [h3]; rfl⟩
theorem mj_SR_app {as : List Nat} {X : Nat → Option Nat} : ∀ {bs r sw : List Value}, mj_SR as X (bs ++ r) sw → ∃ s1 s2, sw = s1 ++ s2 ∧ mj_SR as X bs s1 ∧ mj_SR as X r s2
  | [], r, sw, h => ⟨[], sw, rfl, rfl, h⟩
  | b :: bs, r, sw, h => by
    obtain ⟨x, r', rfl, h1, h2⟩ := mj_SR_cons h
    obtain ⟨s1, s2, rfl, h3, h4⟩ := mj_SR_app (bs := bs) h2
    exact ⟨x :: s1, s2, rfl, mj_SR_put h1 h3, h4⟩
theorem mj_SR_rev {as : List Nat} {X : Nat → Option Nat} {bs sw : List Value} (h : mj_SR as X bs sw) : mj_SR as X bs.reverse sw.reverse := by
  unfold mj_SR
  rw [List.map_reverse, List.map_reverse, show bs.map (mj_mv as X) = sw.map some from h]
theorem mj_SR_join {as : List Nat} {X : Nat → Option Nat} {a1 a2 s1 s2 : List Value} (h1 : mj_SR as X a1 s1) (h2 : mj_SR as X a2 s2) : mj_SR as X (a1 ++ a2) (s1 ++ s2) := by
  unfold mj_SR
  rw [List.map_append, List.map_append, show a1.map (mj_mv as X) = s1.map some from h1, show a2.map (mj_mv as X) = s2.map some from h2]
theorem mj_cat_le (v : Value) : v.category ≤ 2 := by cases v <;> simp [Value.category]
theorem mj_lw_cat {as : List Nat} {X : Nat → Option Nat} {v w : Value} (h : mj_mv as X v = some w) : w.category ≤ mj_lw v := by
  have h2 := mj_cat_le w
  cases v with
  | long x => exact h2
  | double x => exact h2
  | int x => cases h; exact Nat.le_refl _
  | float x =>
    obtain ⟨a, _, rfl⟩ := Option.map_eq_some_iff.mp h
    first
      | exact Nat.le_refl _
      | (cases a <;> exact Nat.le_refl _)
  | null => cases h; exact Nat.le_refl _
  | ref k =>
    obtain ⟨a, _, rfl⟩ := Option.map_eq_some_iff.mp h
    exact Nat.le_refl _
  | retAddr k =>
    obtain ⟨a, _, rfl⟩ := Option.map_eq_some_iff.mp h
    exact Nat.le_refl _
theorem mj_lsum_len {as : List Nat} {X : Nat → Option Nat} : ∀ {r sw : List Value}, mj_SR as X r sw → (sw.map fun v => v.category).sum ≤ mj_lsum r
  | [], sw, h => by
    have e : sw = [] := by
      have := mj_SR_len h
      simpa using this.symm
    subst e
    exact Nat.le_refl _
  | b :: r, sw, h => by
    obtain ⟨x, r', rfl, h1, h2⟩ := mj_SR_cons h
    have a1 := mj_lw_cat h1
    have a2 := mj_lsum_len h2
    simp only [List.map_cons, List.sum_cons, mj_lsum]
    omega
theorem mj_le4_len {as : List Nat} {X : Nat → Option Nat} {r sw : List Value} (h : mj_le4 r = true) (hs : mj_SR as X r sw) : (sw.map fun v => v.category).sum ≤ 8 := by
  have h1 : mj_lsum r ≤ 8 := of_decide_eq_true h
  have h2 := mj_lsum_len hs
  omega
section MJW
variable {p : Program} {l : Launch} {e : Env} {R : Room} {s : State} {m : MethodId} {args : Array Value} {below : List Frame} {meth : Method} {c : Code} {Q : State → Prop} {D : va_G} {cl : List vw_C} {A : Nat → Prop} {H0 : Heap} {as0 : List Nat} {X : Nat → Option Nat} {n0 z0 : Nat}
variable {cc : ByteArray} {pc : Nat} {loc loc' : mj_L} {st st' : List Value} {h h' : mj_H}
variable {E : mj_E}
theorem mj_free {ws : va_W} {H : Heap} {locs : List Loc} (hD : va_D A ws) (hS : va_S A H0 H locs) (hA : ∀ q, H0.size ≤ q → A q) : ∀ q, va_A ws H.size q → A q := by
  intro q h
  rcases h with ⟨k, e, h⟩ | h
  · exact hD.2 k _ h
  · exact hA q (Nat.le_trans hS.1 h)
/-- what a callee's start wants, out of the caller's state -/
theorem mj_pre_of {as : List Nat} {ws : va_W} {H : Heap} {locs : List Loc} (hA : ∀ q, H0.size ≤ q → A q) (hK : va_K D cl [] s) (hX : mj_XR s X E A H0) (hZ : mj_ZR s X A H0) (hE1 : ∀ k n f, E k ≠ some (1, n, f)) (hh : mj_HR s as X h ws) (hP : va_P D cl ws H) (hD : va_D A ws) (hS : va_S A H0 H locs) {sw : List Value} (U : State) (hU : U.heap = H) (hW : s.WarmedH U.vm) : va_Pc sw (mj_Pre D cl X E as ws H.size h) sw.toArray U := by
  have hF := mj_free hD hS hA
  refine ⟨rfl, by rw [hU], by rw [hU]; exact hP, va_K.moved hW.alike hK, hD.weaken (fun _ _ _ _ => trivial), mj_HR_moved hW.alike hh, ?_, ?_, hE1⟩
  · rw [hU]; exact mj_XR_to hW.alike hS.1 hS.2.1 hF hX
  · rw [hU]; exact mj_ZR_to hW hS.2.1 hF hZ
/-- behind a call -/
theorem mj_back {as : List Nat} {ws : va_W} {H : Heap} {locs : List Loc} {ls : Array Slot} {sw0 rest : List Value} {r : Option Value} {h1 : mj_H} {aa : Array Value} (hA : ∀ q, H0.size ≤ q → A q)
    (hr : va_Run p l e R s m args below meth c H locs (h.length - n0) (mj_siz h - z0) (h1.length - h.length) (mj_siz h1 - mj_siz h) (F0 m pc ls sw0) rest (mj_Post D cl X as ws H.size h1 r aa) (va_A ws H.size))
    (hl1 : h.length ≤ h1.length) (hz1 : mj_siz h ≤ mj_siz h1) (k : mj_W p l e R s m args below meth c Q D cl A H0 as0 X n0 z0 (pc + 3) loc (r.toList ++ st) h1)
    (hn : n0 ≤ h.length) (hz : z0 ≤ mj_siz h) (ha : as0 <+: as) (hl : mj_LR as X loc ls) (hs : mj_SR as X st rest) (hD : va_D A ws) (hS : va_S A H0 H locs) : W p l e R s m args below meth c H locs (h.length - n0) (mj_siz h - z0) Q (F0 m pc ls sw0) := by
  have hF := mj_free hD hS hA
  intro T hT Y
  obtain ⟨v, st₀, t, T', L, e0, Y', hL, e1, e2, ⟨⟨rv, as', w', hv, hoV, hpre, hHR, hP1, hD1⟩, hsz, hk⟩, gs⟩ := hr T hT Y
  cases hv
  rw [e0] at hsz hk
  have hal : t.vm.Alike s.vm := by rw [← e2]; exact Y'.warmed.alike.symm
  have hSR : mj_SR as' X (r.toList ++ st) (v.toList ++ rest) := by
    refine mj_SR_join ?_ (mj_SR_mono hpre hs)
    cases r with
    | none => rw [show v = none from hoV]; rfl
    | some x =>
      obtain ⟨w2, rfl, h3⟩ := hoV
      exact mj_SR_put h3 rfl
  have K := k (by omega) (by omega) as' ls (v.toList ++ rest) w' T'.heap (locs ++ L) (ha.trans hpre) (mj_LR_mono hpre hl) hSR (mj_HR_moved hal hHR) (by rw [e1]; exact hP1) (hD1.weaken (fun _ _ _ z => hF _ z))
    ⟨Nat.le_trans hS.1 (by rw [e1]; exact hsz), fun q h1 h2 => by rw [e1, hk q (Nat.lt_of_lt_of_le h1 hS.1) (fun z => h2 (hF q z))]; exact hS.2.1 q h1 h2, fun q hq => by
      rcases List.mem_append.mp hq with z | z
      · exact hS.2.2 q z
      · exact hF _ (hL q z)⟩
  rw [show h1.length - n0 = h.length - n0 + (h1.length - h.length) by omega, show mj_siz h1 - z0 = mj_siz h - z0 + (mj_siz h1 - mj_siz h) by omega] at K
  obtain ⟨t2, a1, b1⟩ := K T' rfl Y'
  exact ⟨t2, gs t2 a1, b1⟩
end MJW
