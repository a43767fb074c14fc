/-! THE CLAIM OUT OF ONE WALK OF THE LAW'S BODY. Your part is whole_start (and what it stands on); all else here is the same for every law, but numbers. -/
def R_law : String := "FarSideLaw"
def lw_P (b : Addr) (xs : List Int32) (args : Array Value) (s : State) : Prop := args = #[.ref b] ∧ s.IntsAt b xs ∧ xs.length ≤ 3072 ∧ (Jvm.Cond.and given_1 narrow_1).before args s = true
def lw_Q (_ : Array Value) (s : State) (o : Outcome) (t : State) : Prop := o = .returned (some (.int 1)) ∧ Framed s o t [] 600000 7302250
def lw_Z (below : List Frame) (a : Array Value) (s : State) : State → Prop := fun t => ∃ o, t.status = .running ∧ Ended t below o ∧ lw_Q a s o t
/-- the law's own end, with 1 on the stack, nothing written that was there before, its room as the claim has it -/
theorem lw_ret {p : Program} {l : Launch} {e : Env} {s : State} {m : MethodId} {below : List Frame} {meth : Method} {c : Code} {b : Nat} (hx : p.tables.exec = Jvm.exec) (hb : c.code = code) (hr : meth.sig.returnType = ret) (hlocks : meth.locks = false) {pc : Nat} {H : Heap} {ls : Array Slot} (hdg : decode code pc = .ok (.ireturn, 1)) : W p l e room_1 s m #[Value.ref b] below meth c H [] 600000 7302250 (lw_Z below #[Value.ref b] s) (F0 m pc ls [.int 1]) := by
  intro T hT X
  obtain ⟨fs, hret, hrun, hended, hW, hframe⟩ := X.leave (v := some (.int 1)) (hlocks := hlocks) (fun h => by rw [hr] at h; cases h)
  have hmeth' : T.vm.method? m = some meth := X.method'
  refine ⟨T.setFrames fs, ?_, .returned (some (.int 1)), hrun, hended, rfl, ⟨_, rfl⟩, hW, hframe⟩
  jvm_step X.here [X.here.top, hx, hb, hdg, hmeth', hr, ret, narrow_b1]
  (try refine ⟨rfl, ?_⟩); (try refine ⟨rfl, ?_⟩)
  first | (intro acts; rw [hret _ acts rfl rfl rfl]) | rw [hret _ _ rfl rfl rfl]
  exact Steps.refl _
/-- what holds at the law's entry: the machine, the code, the tables' words (any of lw_tbl by 'hts w (by decide +kernel)'), the script of L ints xs at the cell b, what the Statement gives of the start (any of its parts by flat_of_before) -/
def lw_At (p : Program) (s : State) (m : MethodId) (meth : Method) (c : Code) (b L : Nat) (xs : Nat → Int32) : Prop :=
  p.tables.exec = Jvm.exec ∧ c.code = code ∧ meth.sig.returnType = ret ∧ c.maxLocals = 4 ∧ s.vm.findClass R_law = some m.cls ∧ (∀ w ∈ lw_tbl, w.before #[Value.ref b] s = true) ∧ va_X b L xs s s.heap ∧ b < s.heap.size ∧ meth.locks = false ∧ (Jvm.Cond.and given_1 narrow_1).before #[Value.ref b] s = true
/-- what is wanted of the pure run: the law answers 1, within the room -/
def mj_Law (L : Nat) (xs : Nat → Int32) : Prop := ∃ (n : Nat) (h' : mj_H), mj_rn (mj_EE L xs) mj_bi n 1000 mj_n 0 (mj_ent 4 [.retAddr 0]) [] [] = some (some (.int 1), h') ∧ h'.length ≤ 600000 ∧ mj_siz h' ≤ 7302250
set_option maxHeartbeats 2000000 in
theorem mj_start {p : Program} {e : Env} {s : State} {m : MethodId} {below : List Frame} {meth : Method} {c : Code} (l : Launch) {b L : Nat} {xs : Nat → Int32} (C0 : lw_At p s m meth c b L xs) (hL : mj_Law L xs) : W p l e room_1 s m #[Value.ref b] below meth c s.heap [] 0 0 (lw_Z below #[Value.ref b] s) (entryFrame m ([Value.ref b] : List Value).toArray 4) := by
  obtain ⟨hx, hb, hr, hml, hown, hts, hX, hbl, hlocks, hgv⟩ := C0
  obtain ⟨n, h', hrun, hlen, hsiz⟩ := hL
  obtain ⟨X, hX0, hXR, hZR⟩ := mj_outside hts hX hbl hgv
  have htT : ∀ w ∈ mj_Ts, w.before #[Value.ref b] s = true := fun w hw => hts w (mj_Ts_in hw)
  obtain ⟨D, hK⟩ := mj_known htT
  have hini : mj_ini mj_n = false := by decide +kernel
  have C : mj_Cx p room_1 s m #[Value.ref b] meth c D (fun q => s.heap.size ≤ q) X (mj_EE L xs) (mj_meth mj_n).1.1 (mj_ini mj_n) 1000 4 (mj_meth mj_n).2.1 :=
    ⟨hx, hb, hml, hown, htT, hK, hXR, hZR, fun _ h => h, (fun z => by rw [hini] at z; cases z), by decide, by decide, mj_EE1 L xs⟩
  have S := mj_frame (l := l) (e := e) (below := below) (Q := lw_Z below #[Value.ref b] s) (as0 := []) (n0 := 0) (z0 := 0) (r := some (.int 1)) (h' := h') (N := n) (fun k _ => mj_all l D X (mj_EE L xs) mj_bi (mj_BI_ok l D X (mj_EE L xs)) k) (mj_BI_ok l D X (mj_EE L xs)) mj_law_ck C ?_ n (Nat.le_refl n) 0 (mj_ent 4 [.retAddr 0]) [] [] (mj_fill_len _ _) hrun
  · rw [mj_law_0] at S
    have hs : mj_SR [] X [.retAddr 0] [.ref b] := mj_SR_put (Option.map_eq_some_iff.mpr ⟨b, hX0, rfl⟩) rfl
    have K := S.2.2 ⟨by show h'.length - 0 ≤ 600000; omega, by show mj_siz h' - 0 ≤ 7302250; omega⟩ (Nat.le_refl _) (Nat.le_refl _) [] _ [] [] s.heap [] (List.prefix_refl _) (mj_ent_LR hs (by decide)) rfl ⟨rfl, rfl, fun k c q h1 _ => by simp at h1⟩ (fun k q h => by simp at h) ⟨fun i j p q h => by simp at h, fun k q h => by simp at h⟩ va_S.rf
    rw [lg_entry_eq]
    exact K
  · intro pc loc st i x hll hrt hdg hrk hn hz as ls sw ws H locs ha hl hs hh hP hD hS
    have hi : i = .ireturn ∧ st = [.int 1] := by
      unfold mj_ret at hrt
      split at hrt
      · split at hrt
        · split at hrt
          · cases hrt; exact ⟨rfl, rfl⟩
          · cases hrt
        · cases hrt
      · split at hrt <;> cases hrt
      · split at hrt <;> cases hrt
      · split at hrt <;> cases hrt
      · cases hrt
    obtain ⟨rfl, rfl⟩ := hi
    obtain ⟨s1, rfl, hs1⟩ := mj_SR_int hs
    have e1 := mj_SR_nil hs1
    subst e1
    refine va_forget (fun q hq => hS.2.2 q hq) ?_
    refine W.widen (k := 600000) (n := 7302250) (by omega) (by omega) ?_
    exact lw_ret hx hb hr hlocks hdg
