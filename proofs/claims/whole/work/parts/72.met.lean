/-! runs of methods, and a method's contract out of its run -/
theorem mj_nar1 {a : Int32} (h : mj_rok 1 a = true) : narrow .boolean (.int a) = .int a := by
  have h : (a == 0 || a == 1) = true := h
  simp only [Bool.or_eq_true, beq_iff_eq] at h
  rcases h with rfl | rfl <;> rfl
theorem mj_nar2 {a : Int32} (h : mj_rok 2 a = true) : narrow .char (.int a) = .int a := by
  have h : 0 ≤ a.toInt ∧ a.toInt ≤ 65535 := of_decide_eq_true h
  have e : a.toUInt32.toUInt16.toUInt32.toInt32 = a := by
    apply Int32.toBitVec_inj.mp
    show (a.toBitVec.setWidth 16).setWidth 32 = a.toBitVec
    have h2 : a.toBitVec.toInt = a.toInt := rfl
    have h3 : a.toBitVec.toNat < 65536 := by
      have h4 := BitVec.toInt_eq_toNat_cond (x := a.toBitVec)
      have h5 := a.toBitVec.isLt
      rw [h2] at h4
      split at h4 <;> omega
    apply BitVec.eq_of_toNat_eq
    rw [BitVec.toNat_setWidth, BitVec.toNat_setWidth]
    omega
  show Value.int a.toUInt32.toUInt16.toUInt32.toInt32 = _
  rw [e]
theorem mj_nar3 {a : Int32} (h : mj_rok 3 a = true) : narrow .byte (.int a) = .int a := by
  have h : (a == 0) = true := h
  rw [beq_iff_eq] at h
  subst h
  rfl
/-- what is wanted of the library's members -/
def mj_BI (l : Launch) (D : va_G) (X : Nat → Option Nat) (E : mj_E) (bi : Nat → List Value → mj_H → mj_R) : Prop :=
  ∀ (p : Program) (e : Env) (R : Room) (s : State) (m : MethodId) (args : Array Value) (below : List Frame) (meth : Method) (c : Code) (Q : State → Prop) (A : Nat → Prop) (as0 : List Nat) (n0 z0 : Nat) (cc : ByteArray) (own nL d : Nat) (ini : Bool), mj_Cx p R s m args meth c D A X E own ini d nL cc →
  ∀ (b k : Nat) (av : List Value) (h : mj_H) (r1 : Option Value) (h1 : mj_H), bi b av h = some (r1, h1) → b < 6 → Jvm.Cond.methodLink (mj_cn own) k (mj_bn b) ∈ mj_Ts → h.length ≤ h1.length ∧ mj_siz h ≤ mj_siz h1 ∧ ∀ (pc : Nat) (loc : mj_L) (r0 : List Value), loc.length = nL → decode cc pc = .ok (if b = 4 then .invokevirtual k else .invokestatic k, 3) → mj_le4 r0 = true → mj_room R n0 z0 h1 → mj_W p l e R s m args below meth c Q D mj_cl A s.heap as0 X n0 z0 (pc + 3) loc (r1.toList ++ r0) h1 → mj_W p l e R s m args below meth c Q D mj_cl A s.heap as0 X n0 z0 (pc) loc (av.reverse ++ r0) h
theorem mj_fill_len : ∀ (n : Nat) (l : mj_L), (mj_fill n l).length = n
  | 0, _ => rfl
  | n + 1, [] => congrArg Nat.succ (mj_fill_len n [])
  | n + 1, _ :: l => congrArg Nat.succ (mj_fill_len n l)
theorem mj_fill_get : ∀ (n : Nat) (l : mj_L) (k : Nat) (v : Value), mj_lget (mj_fill n l) k = some v → mj_lget l k = some v
  | 0, _, _, _, h => by cases h
  | n + 1, [], 0, v, h => by cases h
  | n + 1, [], k + 1, v, h => by
    have := mj_fill_get n [] k v h
    cases this
  | n + 1, a :: l, 0, v, h => h
  | n + 1, a :: l, k + 1, v, h => mj_fill_get n l k v h
theorem mj_args_get {as : List Nat} {X : Nat → Option Nat} : ∀ {av sw : List Value} (i : Nat), mj_SR as X av sw → (lg_sl sw).length = (mj_args av).length ∧ ∀ (k : Nat) (v : Value), mj_lget (mj_args av) k = some v → ∃ w, mj_mv as X v = some w ∧ (i + k, w) ∈ lv_args i sw
  | [], sw, i, hs => by
    rw [mj_SR_nil hs]
    exact ⟨rfl, fun k v h => by cases h⟩
  | a :: av, sw, i, hs => by
    obtain ⟨w, sw', rfl, h1, h2⟩ := mj_SR_cons hs
    by_cases hlg : ∃ y, a = .long y
    · obtain ⟨y, rfl⟩ := hlg
      cases h1
      obtain ⟨g1, g2⟩ := mj_args_get (i + 2) h2
      refine ⟨?_, fun k v hk => ?_⟩
      · show ((lg_sl sw').length + 1 + 1) = _
        rw [g1]; rfl
      · match k, hk with
        | 0, hk =>
          cases hk
          exact ⟨.long y, rfl, List.mem_cons_self⟩
        | 1, hk => cases hk
        | k + 2, hk =>
          obtain ⟨w, g3, g4⟩ := g2 k v hk
          refine ⟨w, g3, List.mem_cons_of_mem _ ?_⟩
          show (i + (k + 2), w) ∈ lv_args (i + 2) sw'
          rw [show i + (k + 2) = i + 2 + k by omega]
          exact g4
    · have ea : mj_args (a :: av) = some a :: mj_args av := by
        cases a <;> first | rfl | exact absurd ⟨_, rfl⟩ hlg
      have hcat : ¬ w.category = 2 := by
        cases a <;> simp [mj_mv] at h1
        · subst h1; simp [Value.category]
        · exact absurd ⟨_, rfl⟩ hlg
        · obtain ⟨z, -, rfl⟩ := h1; cases z <;> simp [mj_sx, Value.category]
        · subst h1; simp [Value.category]
        · obtain ⟨z, -, rfl⟩ := h1; simp [Value.category]
        · obtain ⟨z, -, rfl⟩ := h1; simp [Value.category]
      obtain ⟨g1, g2⟩ := mj_args_get (i + 1) h2
      have e2 : lv_args i (w :: sw') = (i, w) :: lv_args (i + 1) sw' := by show (i, w) :: lv_args (if w.category = 2 then i + 2 else i + 1) sw' = _; rw [if_neg hcat]
      have e3 : lg_sl (w :: sw') = .val w :: lg_sl sw' := by simp [lg_sl, hcat]
      rw [ea, e2, e3]
      refine ⟨congrArg Nat.succ g1, fun k v hk => ?_⟩
      match k, hk with
      | 0, hk =>
        cases hk
        exact ⟨w, h1, List.mem_cons_self⟩
      | k + 1, hk =>
        obtain ⟨w2, g3, g4⟩ := g2 k v hk
        refine ⟨w2, g3, List.mem_cons_of_mem _ ?_⟩
        rw [show i + (k + 1) = i + 1 + k by omega]
        exact g4
theorem mj_ent_LR {as : List Nat} {X : Nat → Option Nat} {av sw : List Value} {n : Nat} (hs : mj_SR as X av sw) (hn : (mj_args av).length ≤ n) : mj_LR as X (mj_ent n av) ((lg_sl sw ++ List.replicate (n - (lg_sl sw).length) Slot.unset).toArray) := by
  obtain ⟨g1, g2⟩ := mj_args_get 0 hs
  obtain ⟨e1, e2, e3⟩ := lv_entry sw (n := n) (by rw [g1]; exact hn)
  refine ⟨by rw [e1]; exact mj_fill_len n _, e2, fun k v hk => ?_⟩
  obtain ⟨w, h1, h2⟩ := g2 k v (mj_fill_get n _ k v hk)
  rw [Nat.zero_add] at h2
  exact ⟨w, h1, e3 _ h2⟩
theorem mj_mck_blk {mm b : Nat} (h : mj_mck mm = true) : mj_ck (mj_meth mm).1.1 (mj_ini mm) (mj_meth mm).2.2.2 (mj_sp mm) (mj_meth mm).2.1 (mj_blk mm b) (mj_sp mm b) = true := by
  unfold mj_mck at h
  rw [Bool.and_eq_true] at h
  show mj_ck _ _ _ _ _ ((mj_bs.getD mm []).getD b (0, [])).2 ((mj_bs.getD mm []).getD b (0, [])).1 = true
  rw [List.getD_eq_getElem?_getD (l := mj_bs.getD mm [])]
  cases hb : (mj_bs.getD mm [])[b]? with
  | none => rfl
  | some q => exact List.all_eq_true.mp h.1 q (List.mem_of_getElem? hb)
/-- there is a state at all in which it could run -/
def mj_Ctx (D : va_G) (X : Nat → Option Nat) (E : mj_E) : Prop := ∃ (p : Program) (_ : Env) (R : Room) (s : State) (m : MethodId) (args : Array Value) (meth : Method) (c : Code) (A : Nat → Prop) (own : Nat) (ini : Bool) (d nL : Nat) (cc : ByteArray), mj_Cx p R s m args meth c D A X E own ini d nL cc
/-- a run that comes to an end is as its contract says -/
def mj_A (l : Launch) (D : va_G) (X : Nat → Option Nat) (E : mj_E) (bi : Nat → List Value → mj_H → mj_R) (n : Nat) : Prop :=
  ∀ (d mm : Nat) (av : List Value) (h : mj_H) (r : Option Value) (h' : mj_H), mm < mj_n → (mj_args av).length ≤ (mj_meth mm).2.2.1 → mj_rn E bi n d mm 0 (mj_ent (mj_meth mm).2.2.1 av) [] h = some (r, h') → (mj_Ctx D X E → h.length ≤ h'.length ∧ mj_siz h ≤ mj_siz h') ∧ mj_Met l D mj_cl X E (mj_yn mm) (mj_ws mm) d av h r h'
section MJY
variable {p : Program} {l : Launch} {e : Env} {R : Room} {s : State} {m : MethodId} {args : Array Value} {below : List Frame} {meth : Method} {c : Code} {Q : State → Prop} {D : va_G} {A : Nat → Prop} {as0 : List Nat} {X : Nat → Option Nat} {n0 z0 : Nat} {E : mj_E}
variable {cc : ByteArray} {own nL d : Nat} {ini : Bool} {rt : Option FieldType} {sp : Nat → Nat} {r : Option Value} {h' : mj_H} {go : Nat → mj_L → List Value → mj_H → mj_R} {call bi : Nat → List Value → mj_H → mj_R}
variable {pc len : Nat} {j : Instr} {loc : mj_L} {st st' : List Value} {h h1 : mj_H} {x : List Nat} {v : Value} {is : List mj_I}
theorem mj_frame {N mm : Nat} (hA : ∀ k, k < N → mj_A l D X E bi k) (hB : mj_BI l D X E bi) (hk : ∀ b, mj_ck (mj_meth mm).1.1 (mj_ini mm) (mj_meth mm).2.2.2 (mj_sp mm) (mj_meth mm).2.1 (mj_blk mm b) (mj_sp mm b) = true) (C : mj_Cx p R s m args meth c D A X E (mj_meth mm).1.1 (mj_ini mm) d nL (mj_meth mm).2.1)
    (hret : ∀ (pc : Nat) (loc : mj_L) (st : List Value) (i : Instr) (x : List Nat), loc.length = nL → mj_ret i x st = some r → decode (mj_meth mm).2.1 pc = .ok (i, 1) → mj_rk (mj_meth mm).2.2.2 i x = true → mj_W p l e R s m args below meth c Q D mj_cl A s.heap as0 X n0 z0 (pc) loc st h') :
    ∀ k, k ≤ N → ∀ (b : Nat) (loc : mj_L) (st : List Value) (h : mj_H), loc.length = nL → mj_rn E bi k d mm b loc st h = some (r, h') → mj_Snd p l e R s m args below meth c Q D A as0 X n0 z0 h' (mj_sp mm b) loc st h := by
  intro k
  induction k with
  | zero => intro _ b loc st h _ hex; cases hex
  | succ k ih =>
    intro hkN b loc st h hll hex
    refine mj_ex_ok C (ih (by omega)) (fun mm' av h r1 h1 hm hc => ?_) (hB p e R s m args below meth c Q A as0 n0 z0 _ _ nL d _ C) hret _ _ _ _ _ (hk b) hll hex
    cases d with
    | zero => cases hc
    | succ dd =>
      dsimp only at hc
      split at hc
      · rename_i hl
        obtain ⟨g1, g3⟩ := hA k (by omega) dd mm' av h r1 h1 hm hl hc
        obtain ⟨g1, g2⟩ := g1 ⟨p, e, R, s, m, args, meth, c, A, _, _, _, _, _, C⟩
        exact ⟨g1, g2, dd, rfl, g3⟩
      · cases hc
end MJY
set_option maxHeartbeats 1000000 in
theorem mj_all (l : Launch) (D : va_G) (X : Nat → Option Nat) (E : mj_E) (bi : Nat → List Value → mj_H → mj_R) (hB : mj_BI l D X E bi) (N : Nat) : mj_A l D X E bi N := by
  induction N using Nat.strongRecOn with
  | ind N ihN =>
  intro d mm av h r h' hm hlen hrun
  have hk := mj_kall hm
  have hsp0 : mj_sp mm 0 = 0 := by
    unfold mj_mck at hk
    rw [Bool.and_eq_true] at hk
    exact of_decide_eq_true hk.2
  obtain ⟨f1, f2, f3, f4, f5, f6, f7, f8⟩ := mj_fc hm
  -- the sizes come with the contract of any frame; so first the walk in an arbitrary frame
  have walk : ∀ (p : Program) (e : Env) (R : Room) (s : State) (m : MethodId) (args : Array Value) (below : List Frame) (meth : Method) (c : Code) (Q : State → Prop) (A : Nat → Prop) (as0 : List Nat) (n0 z0 : Nat), mj_Cx p R s m args meth c D A X E (mj_meth mm).1.1 (mj_ini mm) d (mj_meth mm).2.2.1 (mj_meth mm).2.1 →
      (∀ (pc : Nat) (loc : mj_L) (st : List Value) (i : Instr) (x : List Nat), loc.length = (mj_meth mm).2.2.1 → mj_ret i x st = some r → decode (mj_meth mm).2.1 pc = .ok (i, 1) → mj_rk (mj_meth mm).2.2.2 i x = true → mj_W p l e R s m args below meth c Q D mj_cl A s.heap as0 X n0 z0 pc loc st h') →
      mj_Snd p l e R s m args below meth c Q D A as0 X n0 z0 h' 0 (mj_ent (mj_meth mm).2.2.1 av) [] h := by
    intro p e R s m args below meth c Q A as0 n0 z0 C hret
    have := mj_frame (N := N) ihN hB (fun b => mj_mck_blk hk) C hret N (Nat.le_refl N) 0 _ _ _ (mj_fill_len _ _) hrun
    rw [hsp0] at this
    exact this
  refine ⟨?_, ?_⟩
  · rintro ⟨p, e, R, s, m, args, meth, c, A, own, ini, d0, nL, cc, C⟩
    obtain ⟨hx, hb, hml, hown, hts, hK, hX, hZ, hAq, hini, hfr, hlo, hE1⟩ := C
    obtain ⟨cid, hfc⟩ : ∃ cid, s.vm.findClass (mj_cn (mj_meth mm).1.1) = some cid := by
      have h9 : (Jvm.Cond.initialized (mj_cn (mj_meth mm).1.1)).before args s = true := hts _ f5
      cases hc : s.vm.findClass (mj_cn (mj_meth mm).1.1) with
      | none => simp [Jvm.Cond.before, Jvm.Cond.holds, Jvm.Cond.value, hc] at h9
      | some cid => exact ⟨cid, rfl⟩
    have C0 : mj_Cx p (mj_rm d 0 0) s { m with cls := cid } args { meth with name := "<init>" } { c with code := (mj_meth mm).2.1, maxLocals := (mj_meth mm).2.2.1 } D A X E (mj_meth mm).1.1 (mj_ini mm) d (mj_meth mm).2.2.1 (mj_meth mm).2.1 :=
      ⟨hx, rfl, rfl, hfc, hts, hK, hX, hZ, hAq, fun _ => rfl, Nat.le_refl _, Nat.le_refl _, hE1⟩
    have S := walk p e (mj_rm d 0 0) s _ args [] _ _ (fun _ => True) A [] 0 0 C0 (fun pc loc st i x _ _ _ _ => fun _ _ as ls sw ws H locs _ _ _ _ _ _ _ => fun T _ _ => ⟨_, Steps.refl _, trivial⟩)
    exact ⟨S.1, S.2.1⟩
  · intro as w0 sw sz hsw
    refine Met.ofW (cc := (mj_meth mm).2.1) (maxL := (mj_meth mm).2.2.1) (ret := (mj_meth mm).2.2.2) (mj_cn_ne f6).2.2 rfl ?_
    intro p e s m args below meth c s₁ B hml hv
    obtain ⟨rfl, hsz, hP, hK, hD0, hHR, hX, hZ, hE1⟩ := hv
    have hts0 := atoms_spec (ws := mj_ws mm) B.pre
    have hown : s.vm.findClass (mj_cn (mj_meth mm).1.1) = some m.cls := findClass_of_methodNamed B.named
    have hlocks := B.notSynchronized
    have hr := B.returns
    have hin : meth.name = (mj_yn mm).name := (name_of_methodNamed B.named B.method).1
    subst hsz
    have hA : ∀ q : Nat, s.heap.size ≤ q → va_A w0 s.heap.size q := fun q z => Or.inr z
    have C : mj_Cx p (mj_rm d (h'.length - h.length) (mj_siz h' - mj_siz h)) s m sw.toArray meth c D (va_A w0 s.heap.size) X E (mj_meth mm).1.1 (mj_ini mm) d (mj_meth mm).2.2.1 (mj_meth mm).2.1 :=
      ⟨B.exec, B.bytes, hml, hown, fun w hw => hts0 w (List.mem_cons_of_mem _ hw), hK, hX, hZ, hA, fun z => by rw [hin]; simp [mj_yn, z], Nat.le_refl _, Nat.le_refl _, hE1⟩
    have S := walk p e _ s m sw.toArray below meth c (MQ below (mj_Post D mj_cl X as w0 s.heap.size h' r) sw.toArray s (h'.length - h.length) (mj_siz h' - mj_siz h) (va_A w0 s.heap.size)) (va_A w0 s.heap.size) as h.length (mj_siz h) C ?_
    · have K := S.2.2 ⟨Nat.le_refl _, Nat.le_refl _⟩ (Nat.le_refl _) (Nat.le_refl _) as _ [] w0 s.heap [] (List.prefix_refl _) (mj_ent_LR hsw hlen) rfl hHR hP hD0.self va_S.rf
      rw [lg_entry_eq]
      rw [Nat.sub_self, Nat.sub_self] at K
      exact K
    · intro pc loc st i x hll hrt hdg hrk hn hz as' ls sw' ws H locs ha hl hs hh hPP hDD hSS
      have post : ∀ (rv : Option Value), mj_oV as' X r rv → ∀ t : State, t.heap = H → s.WarmedH t.vm → mj_Post D mj_cl X as w0 s.heap.size h' r sw.toArray s (.returned rv) t := fun rv hov t ht hW =>
        ⟨⟨rv, as', ws, rfl, hov, ha, mj_HR_moved hW.alike hh, by rw [ht]; exact hPP, hDD⟩, hSS.F ht⟩
      unfold mj_ret at hrt
      split at hrt
      · split at hrt
        · rename_i a
          obtain ⟨s1, rfl, hs1⟩ := mj_SR_int hs
          have e1 := mj_SR_nil hs1
          subst e1
          simp only [mj_rk, Bool.or_eq_true, Bool.and_eq_true, decide_eq_true_eq] at hrk
          have e2 : mj_rok (x.getD 0 0) a = true ∧ r = some (.int a) := by
            by_cases hz2 : mj_rok (x.getD 0 0) a = true
            · rw [if_pos hz2] at hrt
              exact ⟨hz2, (Option.some.inj hrt).symm⟩
            · rw [if_neg hz2] at hrt
              cases hrt
          have hpost := post (some (.int a)) (by rw [e2.2]; exact ⟨_, rfl, rfl⟩)
          have e3 := e2.1
          rcases hrk with ((⟨k1, rfl⟩ | ⟨k1, rfl⟩) | ⟨k1, rfl⟩) | ⟨k1, rfl⟩
          · exact W.iret B.exec B.bytes (by rw [hr, k1]) hpost hSS.2.2 hdg hlocks
          · exact W.zret (ty := .boolean) B.exec B.bytes (by rw [hr, k1]) (mj_nar1 e3) hpost hSS.2.2 hdg hlocks
          · exact W.zret (ty := .char) B.exec B.bytes (by rw [hr, k1]) (mj_nar2 e3) hpost hSS.2.2 hdg hlocks
          · exact W.zret (ty := .byte) B.exec B.bytes (by rw [hr, k1]) (mj_nar3 e3) hpost hSS.2.2 hdg hlocks
        · cases hrt
      · split at hrt
        · rename_i a
          obtain ⟨s1, rfl, hs1⟩ := mj_SR_long hs
          have e1 := mj_SR_nil hs1
          subst e1
          cases hrt
          have k1 : (mj_meth mm).2.2.2 = some .long := of_decide_eq_true hrk
          exact W.lret B.exec B.bytes (by rw [hr, k1]) (post _ ⟨_, rfl, rfl⟩) hSS.2.2 hdg hlocks
        · cases hrt
      · have k1 : ∃ rt0, (mj_meth mm).2.2.2 = some rt0 ∧ ((∃ n, rt0 = .object n) ∨ ∃ t, rt0 = .array t) := by
          unfold mj_rk at hrk
          dsimp only at hrk
          split at hrk
          · rename_i q; exact ⟨_, q, Or.inl ⟨_, rfl⟩⟩
          · rename_i q; exact ⟨_, q, Or.inr ⟨_, rfl⟩⟩
          · cases hrk
        obtain ⟨rt0, k1, k2⟩ := k1
        split at hrt
        · obtain ⟨a2, s1, rfl, hq, hs1⟩ := mj_SR_ref hs
          have e1 := mj_SR_nil hs1
          subst e1
          cases hrt
          exact W.aret B.exec B.bytes (by rw [hr, k1]) k2 (Or.inr ⟨_, rfl⟩) (post _ ⟨_, rfl, Option.map_eq_some_iff.mpr ⟨_, hq, rfl⟩⟩) hSS.2.2 hdg hlocks
        · obtain ⟨s1, rfl, hs1⟩ := mj_SR_null hs
          have e1 := mj_SR_nil hs1
          subst e1
          cases hrt
          exact W.aret B.exec B.bytes (by rw [hr, k1]) k2 (Or.inl rfl) (post _ ⟨_, rfl, rfl⟩) hSS.2.2 hdg hlocks
        · cases hrt
      · split at hrt
        · have e1 := mj_SR_nil hs
          subst e1
          cases hrt
          have k1 : (mj_meth mm).2.2.2 = none := of_decide_eq_true hrk
          exact W.vret B.exec B.bytes (by rw [hr, k1]) (post _ rfl) hSS.2.2 hdg hlocks
        · cases hrt
      · cases hrt
