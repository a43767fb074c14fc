/-! the main row: what a block answers, the real machine comes to (second half) -/
theorem mj_lsw_off {sp : Nat → Nat} {x : List Nat} {pc : Nat} {d k : Int} (h0 : (pc : Int) + d = (sp (x.getD 0 0) : Int)) : ∀ (ps' ps : List (Int × Int)) (n : Nat), ps'.map (fun q => q.1) = ps.map (fun q => q.1) → (∀ (i : Nat) (q : Int × Int), ps'[i]? = some q → (pc : Int) + q.2 = (sp (x.getD (n + i) 0) : Int)) → (pc : Int) + Op.lookupswitch.offset ps' d k = (sp (x.getD (mj_lsw k ps n) 0) : Int)
  | [], [], n, _, _ => h0
  | [], _ :: _, n, h, _ => by simp at h
  | _ :: _, [], n, h, _ => by simp at h
  | (a, o) :: ps', (b, q) :: ps, n, h, hq => by
    simp only [List.map_cons, List.cons.injEq] at h
    rw [Op.lookupswitch.offset_cons]
    unfold mj_lsw
    by_cases hk : a = k
    · rw [if_pos hk, if_pos (show (b, q).1 = k by rw [← h.1]; exact hk)]
      exact hq 0 (a, o) rfl
    · rw [if_neg hk, if_neg (show ¬ (b, q).1 = k by rw [← h.1]; exact hk)]
      exact mj_lsw_off h0 ps' ps (n + 1) h.2 (fun i z hz => by rw [show n + 1 + i = n + (i + 1) by omega]; exact hq (i + 1) z hz)
def mj_rk (rt : Option FieldType) (i : Instr) (x : List Nat) : Bool := match i with
  | .ireturn => (decide (rt = some .int) && decide (x = [])) || (decide (rt = some .boolean) && decide (x = [1])) || (decide (rt = some .char) && decide (x = [2])) || (decide (rt = some .byte) && decide (x = [3]))
  | .lreturn => decide (rt = some .long)
  | .areturn => match rt with
    | some (.object _) => true
    | some (.array _) => true
    | _ => false
  | .return_ => decide (rt = none)
  | _ => false
section MJY
variable {p : Program} {l : Launch} {e : Env} {R : Room} {s : State} {m : MethodId} {args : Array Value} {below : List Frame} {meth : Method} {c : Code} {Q : State → Prop} {D : va_G} {A : Nat → Prop} {as0 : List Nat} {X : Nat → Option Nat} {n0 z0 : Nat} {E : mj_E}
variable {cc : ByteArray} {own nL d : Nat} {ini : Bool} {rt : Option FieldType} {sp : Nat → Nat} {r : Option Value} {h' : mj_H} {go : Nat → mj_L → List Value → mj_H → mj_R} {call bi : Nat → List Value → mj_H → mj_R}
variable {pc len : Nat} {j : Instr} {loc : mj_L} {st st' : List Value} {h h1 : mj_H} {x : List Nat} {v : Value} {is : List mj_I}
def mj_Snd (p : Program) (l : Launch) (e : Env) (R : Room) (s : State) (m : MethodId) (args : Array Value) (below : List Frame) (meth : Method) (c : Code) (Q : State → Prop) (D : va_G) (A : Nat → Prop) (as0 : List Nat) (X : Nat → Option Nat) (n0 z0 : Nat) (h' : mj_H) (pc : Nat) (loc : mj_L) (st : List Value) (h : mj_H) : Prop := h.length ≤ h'.length ∧ mj_siz h ≤ mj_siz h' ∧ (mj_room R n0 z0 h' → mj_W p l e R s m args below meth c Q D mj_cl A s.heap as0 X n0 z0 (pc) loc st h)
theorem mj_y_pu (C : mj_Cx p R s m args meth c D A X E own ini d nL cc) {i : Instr} (hdg : decode cc pc = .ok (j, len)) (hci : (decide (j = i) && len == 1) = true) (hpu : mj_pu i st = some st') (K : mj_Snd p l e R s m args below meth c Q D A as0 X n0 z0 h' (pc + len) loc st' h) : mj_Snd p l e R s m args below meth c Q D A as0 X n0 z0 h' (pc) loc st h := by
  simp only [Bool.and_eq_true, beq_iff_eq, decide_eq_true_eq] at hci
  obtain ⟨rfl, rfl⟩ := hci
  exact ⟨K.1, K.2.1, fun hr => mj_w_pu C.1 C.2.1 hdg hpu (K.2.2 hr)⟩
theorem mj_y_of {pc' : Nat} {loc' : mj_L} (h1l : h.length ≤ h1.length) (h1z : mj_siz h ≤ mj_siz h1) (K : mj_Snd p l e R s m args below meth c Q D A as0 X n0 z0 h' (pc') loc' st' h1) (F : mj_room R n0 z0 h' → mj_room R n0 z0 h1 → mj_W p l e R s m args below meth c Q D mj_cl A s.heap as0 X n0 z0 (pc') loc' st' h1 → mj_W p l e R s m args below meth c Q D mj_cl A s.heap as0 X n0 z0 (pc) loc st h) : mj_Snd p l e R s m args below meth c Q D A as0 X n0 z0 h' (pc) loc st h := by
  refine ⟨Nat.le_trans h1l K.1, Nat.le_trans h1z K.2.1, fun hr => F hr ⟨?_, ?_⟩ (K.2.2 hr)⟩
  · have := hr.1; have := K.1; omega
  · have := hr.2; have := K.2.1; omega
theorem mj_dj {j i : Instr} {len : Nat} (h : (decide (j = i) && len == 1) = true) : j = i ∧ len = 1 := by
  simp only [Bool.and_eq_true, beq_iff_eq, decide_eq_true_eq] at h
  exact h
theorem mj_z_ldc {k : Nat} (C : mj_Cx p R s m args meth c D A X E own ini d nL cc) (ih : ∀ (pc : Nat) (loc : mj_L) (st : List Value) (h : mj_H), mj_ck own ini rt sp cc is pc = true → loc.length = nL → mj_ex E mj_df go call bi is loc st h = some (r, h') → mj_Snd p l e R s m args below meth c Q D A as0 X n0 z0 h' (pc) loc st h) (hck : mj_ck own ini rt sp cc ((.ldc k, x, v) :: is) pc = true) (hll : loc.length = nL) (hex : mj_ex E mj_df go call bi is loc (v :: st) h = some (r, h')) : mj_Snd p l e R s m args below meth c Q D A as0 X n0 z0 h' (pc) loc st h := by
  obtain ⟨j, len, hdg, hci, hck2⟩ := mj_ck_ok rfl hck
  have K := ih _ _ _ _ hck2 hll hex
  exact ⟨K.1, K.2.1, fun hr => mj_x_ldc C hdg hci (K.2.2 hr)⟩
theorem mj_z_iload {k : Nat} (C : mj_Cx p R s m args meth c D A X E own ini d nL cc) (ih : ∀ (pc : Nat) (loc : mj_L) (st : List Value) (h : mj_H), mj_ck own ini rt sp cc is pc = true → loc.length = nL → mj_ex E mj_df go call bi is loc st h = some (r, h') → mj_Snd p l e R s m args below meth c Q D A as0 X n0 z0 h' (pc) loc st h) (hck : mj_ck own ini rt sp cc ((.iload k, x, v) :: is) pc = true) (hll : loc.length = nL) (hex : (match mj_lget loc k with
    | some (.int y) => mj_ex E mj_df go call bi is loc (.int y :: st) h
    | _ => none) = some (r, h')) : mj_Snd p l e R s m args below meth c Q D A as0 X n0 z0 h' (pc) loc st h := by
  obtain ⟨j, len, hdg, hci, hck2⟩ := mj_ck_ok rfl hck
  split at hex
  · rename_i y hg
    have K := ih _ _ _ _ hck2 hll hex
    exact ⟨K.1, K.2.1, fun hr => mj_w_iload C.1 C.2.1 (mj_d_iload hdg hci) hg (K.2.2 hr)⟩
  · cases hex
theorem mj_z_lload {k : Nat} (C : mj_Cx p R s m args meth c D A X E own ini d nL cc) (ih : ∀ (pc : Nat) (loc : mj_L) (st : List Value) (h : mj_H), mj_ck own ini rt sp cc is pc = true → loc.length = nL → mj_ex E mj_df go call bi is loc st h = some (r, h') → mj_Snd p l e R s m args below meth c Q D A as0 X n0 z0 h' (pc) loc st h) (hck : mj_ck own ini rt sp cc ((.lload k, x, v) :: is) pc = true) (hll : loc.length = nL) (hex : (match mj_lget loc k with
    | some (.long y) => mj_ex E mj_df go call bi is loc (.long y :: st) h
    | _ => none) = some (r, h')) : mj_Snd p l e R s m args below meth c Q D A as0 X n0 z0 h' (pc) loc st h := by
  obtain ⟨j, len, hdg, hci, hck2⟩ := mj_ck_ok rfl hck
  split at hex
  · rename_i y hg
    have K := ih _ _ _ _ hck2 hll hex
    exact ⟨K.1, K.2.1, fun hr => mj_w_lload C.1 C.2.1 (mj_d_lload hdg hci) hg (K.2.2 hr)⟩
  · cases hex
theorem mj_z_aload {k : Nat} (C : mj_Cx p R s m args meth c D A X E own ini d nL cc) (ih : ∀ (pc : Nat) (loc : mj_L) (st : List Value) (h : mj_H), mj_ck own ini rt sp cc is pc = true → loc.length = nL → mj_ex E mj_df go call bi is loc st h = some (r, h') → mj_Snd p l e R s m args below meth c Q D A as0 X n0 z0 h' (pc) loc st h) (hck : mj_ck own ini rt sp cc ((.aload k, x, v) :: is) pc = true) (hll : loc.length = nL) (hex : (match mj_lget loc k with
    | some (.ref y) => mj_ex E mj_df go call bi is loc (.ref y :: st) h
    | some .null => mj_ex E mj_df go call bi is loc (.null :: st) h
    | some (.retAddr y) => mj_ex E mj_df go call bi is loc (.retAddr y :: st) h
    | _ => none) = some (r, h')) : mj_Snd p l e R s m args below meth c Q D A as0 X n0 z0 h' (pc) loc st h := by
  obtain ⟨j, len, hdg, hci, hck2⟩ := mj_ck_ok rfl hck
  split at hex
  · rename_i y hg
    have K := ih _ _ _ _ hck2 hll hex
    exact ⟨K.1, K.2.1, fun hr => mj_w_aload C.1 C.2.1 (mj_d_aload hdg hci) hg (Or.inr (Or.inl ⟨y, rfl⟩)) (K.2.2 hr)⟩
  · rename_i hg
    have K := ih _ _ _ _ hck2 hll hex
    exact ⟨K.1, K.2.1, fun hr => mj_w_aload C.1 C.2.1 (mj_d_aload hdg hci) hg (Or.inl rfl) (K.2.2 hr)⟩
  · rename_i y hg
    have K := ih _ _ _ _ hck2 hll hex
    exact ⟨K.1, K.2.1, fun hr => mj_w_aload C.1 C.2.1 (mj_d_aload hdg hci) hg (Or.inr (Or.inr ⟨y, rfl⟩)) (K.2.2 hr)⟩
  · cases hex
theorem mj_z_istore {k : Nat} (C : mj_Cx p R s m args meth c D A X E own ini d nL cc) (ih : ∀ (pc : Nat) (loc : mj_L) (st : List Value) (h : mj_H), mj_ck own ini rt sp cc is pc = true → loc.length = nL → mj_ex E mj_df go call bi is loc st h = some (r, h') → mj_Snd p l e R s m args below meth c Q D A as0 X n0 z0 h' (pc) loc st h) (hck : mj_ck own ini rt sp cc ((.istore k, x, v) :: is) pc = true) (hll : loc.length = nL) (hex : (match st with
    | .int y :: q => if k < loc.length ∧ mj_pl loc k = false then mj_ex E mj_df go call bi is (mj_lset loc k (some (.int y))) q h else none
    | _ => none) = some (r, h')) : mj_Snd p l e R s m args below meth c Q D A as0 X n0 z0 h' (pc) loc st h := by
  obtain ⟨j, len, hdg, hci, hck2⟩ := mj_ck_ok rfl hck
  split at hex
  · split at hex
    · rename_i hk
      have K := ih _ _ _ _ hck2 (by rw [mj_lset_len]; exact hll) hex
      exact ⟨K.1, K.2.1, fun hr => mj_w_istore C.1 C.2.1 (mj_d_istore hdg hci) hk.1 hk.2 (K.2.2 hr)⟩
    · cases hex
  · cases hex
theorem mj_z_lstore {k : Nat} (C : mj_Cx p R s m args meth c D A X E own ini d nL cc) (ih : ∀ (pc : Nat) (loc : mj_L) (st : List Value) (h : mj_H), mj_ck own ini rt sp cc is pc = true → loc.length = nL → mj_ex E mj_df go call bi is loc st h = some (r, h') → mj_Snd p l e R s m args below meth c Q D A as0 X n0 z0 h' (pc) loc st h) (hck : mj_ck own ini rt sp cc ((.lstore k, x, v) :: is) pc = true) (hll : loc.length = nL) (hex : (match st with
    | .long y :: q => if k + 1 < loc.length ∧ mj_pl loc k = false then mj_ex E mj_df go call bi is (mj_lset (mj_lset loc k (some (.long y))) (k + 1) none) q h else none
    | _ => none) = some (r, h')) : mj_Snd p l e R s m args below meth c Q D A as0 X n0 z0 h' (pc) loc st h := by
  obtain ⟨j, len, hdg, hci, hck2⟩ := mj_ck_ok rfl hck
  split at hex
  · split at hex
    · rename_i hk
      have K := ih _ _ _ _ hck2 (by rw [mj_lset_len, mj_lset_len]; exact hll) hex
      exact ⟨K.1, K.2.1, fun hr => mj_w_lstore C.1 C.2.1 (mj_d_lstore hdg hci) hk.1 hk.2 (K.2.2 hr)⟩
    · cases hex
  · cases hex
theorem mj_z_astore {k : Nat} (C : mj_Cx p R s m args meth c D A X E own ini d nL cc) (ih : ∀ (pc : Nat) (loc : mj_L) (st : List Value) (h : mj_H), mj_ck own ini rt sp cc is pc = true → loc.length = nL → mj_ex E mj_df go call bi is loc st h = some (r, h') → mj_Snd p l e R s m args below meth c Q D A as0 X n0 z0 h' (pc) loc st h) (hck : mj_ck own ini rt sp cc ((.astore k, x, v) :: is) pc = true) (hll : loc.length = nL) (hex : (match st with
    | .ref y :: q => if k < loc.length ∧ mj_pl loc k = false then mj_ex E mj_df go call bi is (mj_lset loc k (some (.ref y))) q h else none
    | .null :: q => if k < loc.length ∧ mj_pl loc k = false then mj_ex E mj_df go call bi is (mj_lset loc k (some .null)) q h else none
    | _ => none) = some (r, h')) : mj_Snd p l e R s m args below meth c Q D A as0 X n0 z0 h' (pc) loc st h := by
  obtain ⟨j, len, hdg, hci, hck2⟩ := mj_ck_ok rfl hck
  split at hex
  · rename_i y q
    split at hex
    · rename_i hk
      have K := ih _ _ _ _ hck2 (by rw [mj_lset_len]; exact hll) hex
      exact ⟨K.1, K.2.1, fun hr => mj_w_astore C.1 C.2.1 (mj_d_astore hdg hci) (Or.inr ⟨y, rfl⟩) hk.1 hk.2 (K.2.2 hr)⟩
    · cases hex
  · split at hex
    · rename_i hk
      have K := ih _ _ _ _ hck2 (by rw [mj_lset_len]; exact hll) hex
      exact ⟨K.1, K.2.1, fun hr => mj_w_astore C.1 C.2.1 (mj_d_astore hdg hci) (Or.inl rfl) hk.1 hk.2 (K.2.2 hr)⟩
    · cases hex
  · cases hex
theorem mj_z_iinc {k : Nat} {n : Int} (C : mj_Cx p R s m args meth c D A X E own ini d nL cc) (ih : ∀ (pc : Nat) (loc : mj_L) (st : List Value) (h : mj_H), mj_ck own ini rt sp cc is pc = true → loc.length = nL → mj_ex E mj_df go call bi is loc st h = some (r, h') → mj_Snd p l e R s m args below meth c Q D A as0 X n0 z0 h' (pc) loc st h) (hck : mj_ck own ini rt sp cc ((.iinc k n, x, v) :: is) pc = true) (hll : loc.length = nL) (hex : (match (generalizing := false) mj_lget loc k, v with
    | some (.int y), .int z => if k < loc.length ∧ mj_pl loc k = false then mj_ex E mj_df go call bi is (mj_lset loc k (some (.int (y + z)))) st h else none
    | _, _ => none) = some (r, h')) : mj_Snd p l e R s m args below meth c Q D A as0 X n0 z0 h' (pc) loc st h := by
  obtain ⟨j, len, hdg, hci, hck2⟩ := mj_ck_ok rfl hck
  obtain ⟨y, z, hg, hv, hk, hex⟩ : ∃ y z, mj_lget loc k = some (.int y) ∧ v = .int z ∧ (k < loc.length ∧ mj_pl loc k = false) ∧ mj_ex E mj_df go call bi is (mj_lset loc k (some (.int (y + z)))) st h = some (r, h') := by
    split at hex
    · split at hex
      · exact ⟨_, _, by assumption, rfl, by assumption, hex⟩
      · cases hex
    · cases hex
  have K := ih _ _ _ _ hck2 (by rw [mj_lset_len]; exact hll) hex
  replace hci : (match (generalizing := false) j with
    | .iinc k' n => k' == k && len == 3 && decide (v = .int (Int32.ofInt n))
    | _ => false) = true := hci
  split at hci
  · simp only [Bool.and_eq_true, beq_iff_eq, decide_eq_true_eq] at hci
    obtain ⟨⟨rfl, rfl⟩, h3⟩ := hci
    rw [hv] at h3
    exact ⟨K.1, K.2.1, fun hr => mj_w_iinc C.1 C.2.1 hdg (Value.int.inj h3).symm hg hk.2 (K.2.2 hr)⟩
  · cases hci
theorem mj_z_nop (C : mj_Cx p R s m args meth c D A X E own ini d nL cc) (ih : ∀ (pc : Nat) (loc : mj_L) (st : List Value) (h : mj_H), mj_ck own ini rt sp cc is pc = true → loc.length = nL → mj_ex E mj_df go call bi is loc st h = some (r, h') → mj_Snd p l e R s m args below meth c Q D A as0 X n0 z0 h' (pc) loc st h) (hck : mj_ck own ini rt sp cc ((.nop, x, v) :: is) pc = true) (hll : loc.length = nL) (hex : mj_ex E mj_df go call bi is (mj_kill x loc) st h = some (r, h')) : mj_Snd p l e R s m args below meth c Q D A as0 X n0 z0 h' (pc) loc st h := by
  have hkl : ∀ (ks : List Nat) (l : mj_L), (mj_kill ks l).length = l.length := by
    intro ks
    induction ks with
    | nil => intro l; rfl
    | cons k ks ihk => intro l; show (mj_kill ks (mj_lset l k none)).length = _; rw [ihk, mj_lset_len]
  have K := ih pc _ _ _ hck (by rw [hkl]; exact hll) hex
  exact ⟨K.1, K.2.1, fun hr => mj_w_kill (K.2.2 hr)⟩
theorem mj_z_jsr {off : Int} (hgo : ∀ (b : Nat) (loc : mj_L) (st : List Value) (h : mj_H), loc.length = nL → go b loc st h = some (r, h') → mj_Snd p l e R s m args below meth c Q D A as0 X n0 z0 h' (sp b) loc st h) (hck : mj_ck own ini rt sp cc ((.jsr off, x, v) :: is) pc = true) (hll : loc.length = nL) (hex : go (x.getD 0 0) loc st h = some (r, h')) : mj_Snd p l e R s m args below meth c Q D A as0 X n0 z0 h' (pc) loc st h := by
  have hp : sp (x.getD 0 0) = pc := of_decide_eq_true hck
  have K := hgo _ _ _ _ hll hex
  rw [hp] at K
  exact K
theorem mj_z_goto {o0 : Int} (C : mj_Cx p R s m args meth c D A X E own ini d nL cc) (hgo : ∀ (b : Nat) (loc : mj_L) (st : List Value) (h : mj_H), loc.length = nL → go b loc st h = some (r, h') → mj_Snd p l e R s m args below meth c Q D A as0 X n0 z0 h' (sp b) loc st h) (hck : mj_ck own ini rt sp cc ((.goto o0, x, v) :: is) pc = true) (hll : loc.length = nL) (hex : go (x.getD 0 0) loc st h = some (r, h')) : mj_Snd p l e R s m args below meth c Q D A as0 X n0 z0 h' (pc) loc st h := by
  obtain ⟨j, len, hdg, hci, hck2⟩ := mj_ck_ok rfl hck
  have K := hgo _ _ _ _ hll hex
  replace hci : (match (generalizing := false) j with
    | .goto off => len == 3 && decide ((pc : Int) + off = (sp (x.getD 0 0) : Int))
    | _ => false) = true := hci
  split at hci
  · simp only [Bool.and_eq_true, beq_iff_eq, decide_eq_true_eq] at hci
    obtain ⟨rfl, h3⟩ := hci
    exact ⟨K.1, K.2.1, fun hr => mj_w_goto C.1 C.2.1 hdg h3 (K.2.2 hr)⟩
  · cases hci
theorem mj_z_ifCond {cd : Jvm.ClassFile.Cond} {o0 : Int} (C : mj_Cx p R s m args meth c D A X E own ini d nL cc) (hgo : ∀ (b : Nat) (loc : mj_L) (st : List Value) (h : mj_H), loc.length = nL → go b loc st h = some (r, h') → mj_Snd p l e R s m args below meth c Q D A as0 X n0 z0 h' (sp b) loc st h) (hck : mj_ck own ini rt sp cc ((.ifCond cd o0, x, v) :: is) pc = true) (hll : loc.length = nL) (hex : (match st with
    | .int a :: q => if mj_cmp cd a 0 = true then go (x.getD 0 0) loc q h else go (x.getD 1 0) loc q h
    | _ => none) = some (r, h')) : mj_Snd p l e R s m args below meth c Q D A as0 X n0 z0 h' (pc) loc st h := by
  obtain ⟨j, len, hdg, hci, hck2⟩ := mj_ck_ok rfl hck
  replace hci : (match (generalizing := false) j with
    | .ifCond c' off => len == 3 && decide (c' = cd) && decide ((pc : Int) + off = (sp (x.getD 0 0) : Int)) && decide (sp (x.getD 1 0) = pc + 3)
    | _ => false) = true := hci
  split at hci
  · simp only [Bool.and_eq_true, beq_iff_eq, decide_eq_true_eq] at hci
    obtain ⟨⟨⟨rfl, rfl⟩, h3⟩, h4⟩ := hci
    split at hex
    · split at hex
      · rename_i hc
        have K := hgo _ _ _ _ hll hex
        exact ⟨K.1, K.2.1, fun hr => mj_w_if C.1 C.2.1 hdg h3 (fun _ => K.2.2 hr) (fun z => absurd hc z)⟩
      · rename_i hc
        have K := hgo _ _ _ _ hll hex
        rw [h4] at K
        exact ⟨K.1, K.2.1, fun hr => mj_w_if C.1 C.2.1 hdg h3 (fun z => absurd z hc) (fun _ => K.2.2 hr)⟩
    · cases hex
  · cases hci
theorem mj_z_if_icmp {cd : Jvm.ClassFile.Cond} {o0 : Int} (C : mj_Cx p R s m args meth c D A X E own ini d nL cc) (hgo : ∀ (b : Nat) (loc : mj_L) (st : List Value) (h : mj_H), loc.length = nL → go b loc st h = some (r, h') → mj_Snd p l e R s m args below meth c Q D A as0 X n0 z0 h' (sp b) loc st h) (hck : mj_ck own ini rt sp cc ((.if_icmp cd o0, x, v) :: is) pc = true) (hll : loc.length = nL) (hex : (match st with
    | .int b :: .int a :: q => if mj_cmp cd a b = true then go (x.getD 0 0) loc q h else go (x.getD 1 0) loc q h
    | _ => none) = some (r, h')) : mj_Snd p l e R s m args below meth c Q D A as0 X n0 z0 h' (pc) loc st h := by
  obtain ⟨j, len, hdg, hci, hck2⟩ := mj_ck_ok rfl hck
  replace hci : (match (generalizing := false) j with
    | .if_icmp c' off => len == 3 && decide (c' = cd) && decide ((pc : Int) + off = (sp (x.getD 0 0) : Int)) && decide (sp (x.getD 1 0) = pc + 3)
    | _ => false) = true := hci
  split at hci
  · simp only [Bool.and_eq_true, beq_iff_eq, decide_eq_true_eq] at hci
    obtain ⟨⟨⟨rfl, rfl⟩, h3⟩, h4⟩ := hci
    split at hex
    · split at hex
      · rename_i hc
        have K := hgo _ _ _ _ hll hex
        exact ⟨K.1, K.2.1, fun hr => mj_w_icmp C.1 C.2.1 hdg h3 (fun _ => K.2.2 hr) (fun z => absurd hc z)⟩
      · rename_i hc
        have K := hgo _ _ _ _ hll hex
        rw [h4] at K
        exact ⟨K.1, K.2.1, fun hr => mj_w_icmp C.1 C.2.1 hdg h3 (fun z => absurd z hc) (fun _ => K.2.2 hr)⟩
    · cases hex
  · cases hci
theorem mj_z_ifnull {o0 : Int} (C : mj_Cx p R s m args meth c D A X E own ini d nL cc) (hgo : ∀ (b : Nat) (loc : mj_L) (st : List Value) (h : mj_H), loc.length = nL → go b loc st h = some (r, h') → mj_Snd p l e R s m args below meth c Q D A as0 X n0 z0 h' (sp b) loc st h) (hck : mj_ck own ini rt sp cc ((.ifnull o0, x, v) :: is) pc = true) (hll : loc.length = nL) (hex : (match st with
    | .null :: q => go (x.getD 0 0) loc q h
    | .ref _ :: q => go (x.getD 1 0) loc q h
    | _ => none) = some (r, h')) : mj_Snd p l e R s m args below meth c Q D A as0 X n0 z0 h' (pc) loc st h := by
  obtain ⟨j, len, hdg, hci, hck2⟩ := mj_ck_ok rfl hck
  replace hci : (match (generalizing := false) j with
    | .ifnull off => len == 3 && decide ((pc : Int) + off = (sp (x.getD 0 0) : Int)) && decide (sp (x.getD 1 0) = pc + 3)
    | _ => false) = true := hci
  split at hci
  · simp only [Bool.and_eq_true, beq_iff_eq, decide_eq_true_eq] at hci
    obtain ⟨⟨rfl, h3⟩, h4⟩ := hci
    split at hex
    · have K := hgo _ _ _ _ hll hex
      
      exact ⟨K.1, K.2.1, fun hr => mj_w_ifnull C.1 C.2.1 hdg h3 (Or.inl rfl) (fun _ => K.2.2 hr) (fun y z => by cases z)⟩
    · have K := hgo _ _ _ _ hll hex
      rw [h4] at K
      exact ⟨K.1, K.2.1, fun hr => mj_w_ifnull C.1 C.2.1 hdg h3 (Or.inr ⟨_, rfl⟩) (fun z => by cases z) (fun _ _ => K.2.2 hr)⟩
    · cases hex
  · cases hci
theorem mj_z_ifnonnull {o0 : Int} (C : mj_Cx p R s m args meth c D A X E own ini d nL cc) (hgo : ∀ (b : Nat) (loc : mj_L) (st : List Value) (h : mj_H), loc.length = nL → go b loc st h = some (r, h') → mj_Snd p l e R s m args below meth c Q D A as0 X n0 z0 h' (sp b) loc st h) (hck : mj_ck own ini rt sp cc ((.ifnonnull o0, x, v) :: is) pc = true) (hll : loc.length = nL) (hex : (match st with
    | .null :: q => go (x.getD 1 0) loc q h
    | .ref _ :: q => go (x.getD 0 0) loc q h
    | _ => none) = some (r, h')) : mj_Snd p l e R s m args below meth c Q D A as0 X n0 z0 h' (pc) loc st h := by
  obtain ⟨j, len, hdg, hci, hck2⟩ := mj_ck_ok rfl hck
  replace hci : (match (generalizing := false) j with
    | .ifnonnull off => len == 3 && decide ((pc : Int) + off = (sp (x.getD 0 0) : Int)) && decide (sp (x.getD 1 0) = pc + 3)
    | _ => false) = true := hci
  split at hci
  · simp only [Bool.and_eq_true, beq_iff_eq, decide_eq_true_eq] at hci
    obtain ⟨⟨rfl, h3⟩, h4⟩ := hci
    split at hex
    · have K := hgo _ _ _ _ hll hex
      rw [h4] at K
      exact ⟨K.1, K.2.1, fun hr => mj_w_ifnonnull C.1 C.2.1 hdg h3 (Or.inl rfl) (fun y z => by cases z) (fun _ => K.2.2 hr)⟩
    · have K := hgo _ _ _ _ hll hex
      
      exact ⟨K.1, K.2.1, fun hr => mj_w_ifnonnull C.1 C.2.1 hdg h3 (Or.inr ⟨_, rfl⟩) (fun _ _ => K.2.2 hr) (fun z => by cases z)⟩
    · cases hex
  · cases hci
theorem mj_z_tsw {d0 lo hi : Int} {of0 : Array Int} (C : mj_Cx p R s m args meth c D A X E own ini d nL cc) (hgo : ∀ (b : Nat) (loc : mj_L) (st : List Value) (h : mj_H), loc.length = nL → go b loc st h = some (r, h') → mj_Snd p l e R s m args below meth c Q D A as0 X n0 z0 h' (sp b) loc st h) (hck : mj_ck own ini rt sp cc ((.tableswitch d0 lo hi of0, x, v) :: is) pc = true) (hll : loc.length = nL) (hex : (match st with
    | .int a :: q => go (x.getD (mj_tsw lo hi a) 0) loc q h
    | _ => none) = some (r, h')) : mj_Snd p l e R s m args below meth c Q D A as0 X n0 z0 h' (pc) loc st h := by
  obtain ⟨j, len, hdg, hci, hck2⟩ := mj_ck_ok rfl hck
  replace hci : (match (generalizing := false) j with
    | .tableswitch d lo' hi' offs => decide (lo' = lo) && decide (hi' = hi) && decide ((offs.size : Int) = hi - lo + 1) && decide ((pc : Int) + d = (sp (x.getD 0 0) : Int)) && (List.range offs.size).all (fun i => decide ((offs[i]?).map (fun off => (pc : Int) + off) = some (sp (x.getD (i + 1) 0) : Int)))
    | _ => false) = true := hci
  split at hci
  · rename_i d1 lo1 hi1 offs
    simp only [Bool.and_eq_true, decide_eq_true_eq] at hci
    obtain ⟨⟨⟨⟨rfl, rfl⟩, h3⟩, h4⟩, h5⟩ := hci
    split at hex
    · have K := hgo _ _ _ _ hll hex
      refine ⟨K.1, K.2.1, fun hr => mj_w_tsw (tg := fun i => sp (x.getD i 0)) C.1 C.2.1 hdg h3 h4 (fun i off ho => ?_) (K.2.2 hr)⟩
      have hlt : i < offs.size := (Array.getElem?_eq_some_iff.mp ho).1
      have h6 := of_decide_eq_true (List.all_eq_true.mp h5 i (List.mem_range.mpr hlt))
      rw [ho] at h6
      exact Option.some.inj h6
    · cases hex
  · cases hci
theorem mj_z_lsw {d0 : Int} {ps : Array (Int × Int)} (C : mj_Cx p R s m args meth c D A X E own ini d nL cc) (hgo : ∀ (b : Nat) (loc : mj_L) (st : List Value) (h : mj_H), loc.length = nL → go b loc st h = some (r, h') → mj_Snd p l e R s m args below meth c Q D A as0 X n0 z0 h' (sp b) loc st h) (hck : mj_ck own ini rt sp cc ((.lookupswitch d0 ps, x, v) :: is) pc = true) (hll : loc.length = nL) (hex : (match st with
    | .int a :: q => go (x.getD (mj_lsw a.toInt ps.toList 1) 0) loc q h
    | _ => none) = some (r, h')) : mj_Snd p l e R s m args below meth c Q D A as0 X n0 z0 h' (pc) loc st h := by
  obtain ⟨j, len, hdg, hci, hck2⟩ := mj_ck_ok rfl hck
  replace hci : (match (generalizing := false) j with
    | .lookupswitch d ps' => (ps'.toList.zip (ps'.toList.drop 1)).all (fun (a, next) => a.1 < next.1) && decide (ps'.toList.map (fun q => q.1) = ps.toList.map (fun q => q.1)) && decide ((pc : Int) + d = (sp (x.getD 0 0) : Int)) && (List.range ps'.toList.length).all (fun i => decide ((ps'.toList[i]?).map (fun q => (pc : Int) + q.2) = some (sp (x.getD (i + 1) 0) : Int)))
    | _ => false) = true := hci
  split at hci
  · rename_i d1 ps1
    simp only [Bool.and_eq_true, decide_eq_true_eq] at hci
    obtain ⟨⟨⟨h1, h2⟩, h3⟩, h4⟩ := hci
    split at hex
    · rename_i a q
      have K := hgo _ _ _ _ hll hex
      refine ⟨K.1, K.2.1, fun hr => ?_⟩
      have K2 := K.2.2 hr
      intro hn hz as ls sw ws H locs ha hl hs hh hP hD hS
      obtain ⟨s1, rfl, hs1⟩ := mj_SR_int hs
      refine lv_lookup C.1 C.2.1 hdg h1 rfl (mj_lsw_off h3 _ ps.toList 1 h2 (fun i z hz => ?_)) (K2 hn hz as ls _ ws H locs ha hl hs1 hh hP hD hS)
      have hlt : i < ps1.toList.length := (List.getElem?_eq_some_iff.mp hz).1
      have h6 := of_decide_eq_true (List.all_eq_true.mp h4 i (List.mem_range.mpr hlt))
      rw [hz] at h6
      rw [show 1 + i = i + 1 by omega]
      exact Option.some.inj h6
    · cases hex
  · cases hci
theorem mj_z_iaload (C : mj_Cx p R s m args meth c D A X E own ini d nL cc) (ih : ∀ (pc : Nat) (loc : mj_L) (st : List Value) (h : mj_H), mj_ck own ini rt sp cc is pc = true → loc.length = nL → mj_ex E mj_df go call bi is loc st h = some (r, h') → mj_Snd p l e R s m args below meth c Q D A as0 X n0 z0 h' (pc) loc st h) (hck : mj_ck own ini rt sp cc ((.iaload, x, v) :: is) pc = true) (hll : loc.length = nL) (hex : (match mj_ald E 0 st h with
    | some st' => mj_ex E mj_df go call bi is loc st' h
    | none => none) = some (r, h')) : mj_Snd p l e R s m args below meth c Q D A as0 X n0 z0 h' (pc) loc st h := by
  obtain ⟨j, len, hdg, hci, hck2⟩ := mj_ck_ok rfl hck
  obtain ⟨rfl, rfl⟩ := mj_dj hci
  split at hex
  · rename_i st1 hx1
    have K := ih _ _ _ _ hck2 hll hex
    have hE1 := C.2.2.2.2.2.2.2.2.2.2.2.2
    exact ⟨K.1, K.2.1, fun hr => mj_w_iaload C.1 C.2.1 C.2.2.2.2.2.1 C.2.2.2.2.2.2.1 rfl hE1 hdg hx1 (K.2.2 hr)⟩
  · cases hex
theorem mj_z_caload (C : mj_Cx p R s m args meth c D A X E own ini d nL cc) (ih : ∀ (pc : Nat) (loc : mj_L) (st : List Value) (h : mj_H), mj_ck own ini rt sp cc is pc = true → loc.length = nL → mj_ex E mj_df go call bi is loc st h = some (r, h') → mj_Snd p l e R s m args below meth c Q D A as0 X n0 z0 h' (pc) loc st h) (hck : mj_ck own ini rt sp cc ((.caload, x, v) :: is) pc = true) (hll : loc.length = nL) (hex : (match mj_ald E 1 st h with
    | some st' => mj_ex E mj_df go call bi is loc st' h
    | none => none) = some (r, h')) : mj_Snd p l e R s m args below meth c Q D A as0 X n0 z0 h' (pc) loc st h := by
  obtain ⟨j, len, hdg, hci, hck2⟩ := mj_ck_ok rfl hck
  obtain ⟨rfl, rfl⟩ := mj_dj hci
  split at hex
  · rename_i st1 hx1
    have K := ih _ _ _ _ hck2 hll hex
    have hE1 := C.2.2.2.2.2.2.2.2.2.2.2.2
    exact ⟨K.1, K.2.1, fun hr => mj_w_caload C.1 C.2.1 C.2.2.2.2.2.1 C.2.2.2.2.2.2.1 rfl hE1 hdg hx1 (K.2.2 hr)⟩
  · cases hex
theorem mj_z_baload (C : mj_Cx p R s m args meth c D A X E own ini d nL cc) (ih : ∀ (pc : Nat) (loc : mj_L) (st : List Value) (h : mj_H), mj_ck own ini rt sp cc is pc = true → loc.length = nL → mj_ex E mj_df go call bi is loc st h = some (r, h') → mj_Snd p l e R s m args below meth c Q D A as0 X n0 z0 h' (pc) loc st h) (hck : mj_ck own ini rt sp cc ((.baload, x, v) :: is) pc = true) (hll : loc.length = nL) (hex : (match mj_ald E 2 st h with
    | some st' => mj_ex E mj_df go call bi is loc st' h
    | none => none) = some (r, h')) : mj_Snd p l e R s m args below meth c Q D A as0 X n0 z0 h' (pc) loc st h := by
  obtain ⟨j, len, hdg, hci, hck2⟩ := mj_ck_ok rfl hck
  obtain ⟨rfl, rfl⟩ := mj_dj hci
  split at hex
  · rename_i st1 hx1
    have K := ih _ _ _ _ hck2 hll hex
    have hE1 := C.2.2.2.2.2.2.2.2.2.2.2.2
    exact ⟨K.1, K.2.1, fun hr => mj_w_baload C.1 C.2.1 C.2.2.2.2.2.1 C.2.2.2.2.2.2.1 rfl hE1 hdg hx1 (K.2.2 hr)⟩
  · cases hex
theorem mj_z_laload (C : mj_Cx p R s m args meth c D A X E own ini d nL cc) (ih : ∀ (pc : Nat) (loc : mj_L) (st : List Value) (h : mj_H), mj_ck own ini rt sp cc is pc = true → loc.length = nL → mj_ex E mj_df go call bi is loc st h = some (r, h') → mj_Snd p l e R s m args below meth c Q D A as0 X n0 z0 h' (pc) loc st h) (hck : mj_ck own ini rt sp cc ((.laload, x, v) :: is) pc = true) (hll : loc.length = nL) (hex : (match mj_lald st h with
    | some st' => mj_ex E mj_df go call bi is loc st' h
    | none => none) = some (r, h')) : mj_Snd p l e R s m args below meth c Q D A as0 X n0 z0 h' (pc) loc st h := by
  obtain ⟨j, len, hdg, hci, hck2⟩ := mj_ck_ok rfl hck
  obtain ⟨rfl, rfl⟩ := mj_dj hci
  split at hex
  · rename_i st1 hx1
    have K := ih _ _ _ _ hck2 hll hex
    have hE1 := C.2.2.2.2.2.2.2.2.2.2.2.2
    exact ⟨K.1, K.2.1, fun hr => mj_w_laload C.1 C.2.1 C.2.2.2.2.2.1 hdg hx1 (K.2.2 hr)⟩
  · cases hex
theorem mj_z_aaload (C : mj_Cx p R s m args meth c D A X E own ini d nL cc) (ih : ∀ (pc : Nat) (loc : mj_L) (st : List Value) (h : mj_H), mj_ck own ini rt sp cc is pc = true → loc.length = nL → mj_ex E mj_df go call bi is loc st h = some (r, h') → mj_Snd p l e R s m args below meth c Q D A as0 X n0 z0 h' (pc) loc st h) (hck : mj_ck own ini rt sp cc ((.aaload, x, v) :: is) pc = true) (hll : loc.length = nL) (hex : (match mj_aald st h with
    | some st' => mj_ex E mj_df go call bi is loc st' h
    | none => none) = some (r, h')) : mj_Snd p l e R s m args below meth c Q D A as0 X n0 z0 h' (pc) loc st h := by
  obtain ⟨j, len, hdg, hci, hck2⟩ := mj_ck_ok rfl hck
  obtain ⟨rfl, rfl⟩ := mj_dj hci
  split at hex
  · rename_i st1 hx1
    have K := ih _ _ _ _ hck2 hll hex
    have hE1 := C.2.2.2.2.2.2.2.2.2.2.2.2
    exact ⟨K.1, K.2.1, fun hr => mj_w_aaload C.1 C.2.1 C.2.2.2.2.2.1 hdg hx1 (K.2.2 hr)⟩
  · cases hex
theorem mj_z_arraylength (C : mj_Cx p R s m args meth c D A X E own ini d nL cc) (ih : ∀ (pc : Nat) (loc : mj_L) (st : List Value) (h : mj_H), mj_ck own ini rt sp cc is pc = true → loc.length = nL → mj_ex E mj_df go call bi is loc st h = some (r, h') → mj_Snd p l e R s m args below meth c Q D A as0 X n0 z0 h' (pc) loc st h) (hck : mj_ck own ini rt sp cc ((.arraylength, x, v) :: is) pc = true) (hll : loc.length = nL) (hex : (match mj_alen E st h with
    | some st' => mj_ex E mj_df go call bi is loc st' h
    | none => none) = some (r, h')) : mj_Snd p l e R s m args below meth c Q D A as0 X n0 z0 h' (pc) loc st h := by
  obtain ⟨j, len, hdg, hci, hck2⟩ := mj_ck_ok rfl hck
  obtain ⟨rfl, rfl⟩ := mj_dj hci
  split at hex
  · rename_i st1 hx1
    have K := ih _ _ _ _ hck2 hll hex
    have hE1 := C.2.2.2.2.2.2.2.2.2.2.2.2
    exact ⟨K.1, K.2.1, fun hr => mj_w_alen C.1 C.2.1 C.2.2.2.2.2.1 C.2.2.2.2.2.2.1 rfl hdg hx1 (K.2.2 hr)⟩
  · cases hex
theorem mj_z_iastore (C : mj_Cx p R s m args meth c D A X E own ini d nL cc) (ih : ∀ (pc : Nat) (loc : mj_L) (st : List Value) (h : mj_H), mj_ck own ini rt sp cc is pc = true → loc.length = nL → mj_ex E mj_df go call bi is loc st h = some (r, h') → mj_Snd p l e R s m args below meth c Q D A as0 X n0 z0 h' (pc) loc st h) (hck : mj_ck own ini rt sp cc ((.iastore, x, v) :: is) pc = true) (hll : loc.length = nL) (hex : (match mj_ast 0 st h with
    | some (st', h1) => mj_ex E mj_df go call bi is loc st' h1
    | none => none) = some (r, h')) : mj_Snd p l e R s m args below meth c Q D A as0 X n0 z0 h' (pc) loc st h := by
  obtain ⟨j, len, hdg, hci, hck2⟩ := mj_ck_ok rfl hck
  obtain ⟨rfl, rfl⟩ := mj_dj hci
  split at hex
  · rename_i st1 h1 hx1
    have K := ih _ _ _ _ hck2 hll hex
    obtain ⟨e1, e2⟩ := mj_ast_sz hx1
    exact mj_y_of (Nat.le_of_eq e1.symm) (Nat.le_of_eq e2.symm) K (fun _ _ k => mj_w_iastore C.1 C.2.1 C.2.2.2.2.2.1 hdg hx1 k)
  · cases hex
theorem mj_z_castore (C : mj_Cx p R s m args meth c D A X E own ini d nL cc) (ih : ∀ (pc : Nat) (loc : mj_L) (st : List Value) (h : mj_H), mj_ck own ini rt sp cc is pc = true → loc.length = nL → mj_ex E mj_df go call bi is loc st h = some (r, h') → mj_Snd p l e R s m args below meth c Q D A as0 X n0 z0 h' (pc) loc st h) (hck : mj_ck own ini rt sp cc ((.castore, x, v) :: is) pc = true) (hll : loc.length = nL) (hex : (match mj_ast 1 st h with
    | some (st', h1) => mj_ex E mj_df go call bi is loc st' h1
    | none => none) = some (r, h')) : mj_Snd p l e R s m args below meth c Q D A as0 X n0 z0 h' (pc) loc st h := by
  obtain ⟨j, len, hdg, hci, hck2⟩ := mj_ck_ok rfl hck
  obtain ⟨rfl, rfl⟩ := mj_dj hci
  split at hex
  · rename_i st1 h1 hx1
    have K := ih _ _ _ _ hck2 hll hex
    obtain ⟨e1, e2⟩ := mj_ast_sz hx1
    exact mj_y_of (Nat.le_of_eq e1.symm) (Nat.le_of_eq e2.symm) K (fun _ _ k => mj_w_castore C.1 C.2.1 C.2.2.2.2.2.1 hdg hx1 k)
  · cases hex
theorem mj_z_bastore (C : mj_Cx p R s m args meth c D A X E own ini d nL cc) (ih : ∀ (pc : Nat) (loc : mj_L) (st : List Value) (h : mj_H), mj_ck own ini rt sp cc is pc = true → loc.length = nL → mj_ex E mj_df go call bi is loc st h = some (r, h') → mj_Snd p l e R s m args below meth c Q D A as0 X n0 z0 h' (pc) loc st h) (hck : mj_ck own ini rt sp cc ((.bastore, x, v) :: is) pc = true) (hll : loc.length = nL) (hex : (match mj_ast 2 st h with
    | some (st', h1) => mj_ex E mj_df go call bi is loc st' h1
    | none => none) = some (r, h')) : mj_Snd p l e R s m args below meth c Q D A as0 X n0 z0 h' (pc) loc st h := by
  obtain ⟨j, len, hdg, hci, hck2⟩ := mj_ck_ok rfl hck
  obtain ⟨rfl, rfl⟩ := mj_dj hci
  split at hex
  · rename_i st1 h1 hx1
    have K := ih _ _ _ _ hck2 hll hex
    obtain ⟨e1, e2⟩ := mj_ast_sz hx1
    exact mj_y_of (Nat.le_of_eq e1.symm) (Nat.le_of_eq e2.symm) K (fun _ _ k => mj_w_bastore C.1 C.2.1 C.2.2.2.2.2.1 hdg hx1 k)
  · cases hex
theorem mj_z_lastore (C : mj_Cx p R s m args meth c D A X E own ini d nL cc) (ih : ∀ (pc : Nat) (loc : mj_L) (st : List Value) (h : mj_H), mj_ck own ini rt sp cc is pc = true → loc.length = nL → mj_ex E mj_df go call bi is loc st h = some (r, h') → mj_Snd p l e R s m args below meth c Q D A as0 X n0 z0 h' (pc) loc st h) (hck : mj_ck own ini rt sp cc ((.lastore, x, v) :: is) pc = true) (hll : loc.length = nL) (hex : (match mj_last st h with
    | some (st', h1) => mj_ex E mj_df go call bi is loc st' h1
    | none => none) = some (r, h')) : mj_Snd p l e R s m args below meth c Q D A as0 X n0 z0 h' (pc) loc st h := by
  obtain ⟨j, len, hdg, hci, hck2⟩ := mj_ck_ok rfl hck
  obtain ⟨rfl, rfl⟩ := mj_dj hci
  split at hex
  · rename_i st1 h1 hx1
    have K := ih _ _ _ _ hck2 hll hex
    obtain ⟨e1, e2⟩ := mj_last_sz hx1
    exact mj_y_of (Nat.le_of_eq e1.symm) (Nat.le_of_eq e2.symm) K (fun _ _ k => mj_w_lastore C.1 C.2.1 C.2.2.2.2.2.1 hdg hx1 k)
  · cases hex
theorem mj_z_aastore (C : mj_Cx p R s m args meth c D A X E own ini d nL cc) (ih : ∀ (pc : Nat) (loc : mj_L) (st : List Value) (h : mj_H), mj_ck own ini rt sp cc is pc = true → loc.length = nL → mj_ex E mj_df go call bi is loc st h = some (r, h') → mj_Snd p l e R s m args below meth c Q D A as0 X n0 z0 h' (pc) loc st h) (hck : mj_ck own ini rt sp cc ((.aastore, x, v) :: is) pc = true) (hll : loc.length = nL) (hex : (match mj_aast (x.getD 0 0) st h with
    | some (st', h1) => mj_ex E mj_df go call bi is loc st' h1
    | none => none) = some (r, h')) : mj_Snd p l e R s m args below meth c Q D A as0 X n0 z0 h' (pc) loc st h := by
  obtain ⟨j, len, hdg, hci, hck2⟩ := mj_ck_ok rfl hck
  replace hci : (decide (j = .aastore) && len == 1 && x.getD 0 0 == 9) = true := hci
  rw [Bool.and_eq_true] at hci
  obtain ⟨rfl, rfl⟩ := mj_dj hci.1
  have h9 := eq_of_beq hci.2
  split at hex
  · rename_i st1 h1 hx1
    have K := ih _ _ _ _ hck2 hll hex
    obtain ⟨e1, e2⟩ := mj_aast_sz hx1
    exact mj_y_of (Nat.le_of_eq e1.symm) (Nat.le_of_eq e2.symm) K (fun _ _ k => mj_w_aastore (T := mj_T9) (N := 3) C.1 C.2.1 C.2.2.2.2.2.1 (by rw [h9]; rfl) hdg hx1 k)
  · cases hex
theorem mj_z_newarray {at0 : ArrayType} (C : mj_Cx p R s m args meth c D A X E own ini d nL cc) (ih : ∀ (pc : Nat) (loc : mj_L) (st : List Value) (h : mj_H), mj_ck own ini rt sp cc is pc = true → loc.length = nL → mj_ex E mj_df go call bi is loc st h = some (r, h') → mj_Snd p l e R s m args below meth c Q D A as0 X n0 z0 h' (pc) loc st h) (hck : mj_ck own ini rt sp cc ((.newarray at0, x, v) :: is) pc = true) (hll : loc.length = nL) (hex : (match mj_newa (x.getD 0 0) st h with
    | some (st', h1) => mj_ex E mj_df go call bi is loc st' h1
    | none => none) = some (r, h')) : mj_Snd p l e R s m args below meth c Q D A as0 X n0 z0 h' (pc) loc st h := by
  obtain ⟨j, len, hdg, hci, hck2⟩ := mj_ck_ok rfl hck
  replace hci : (match (generalizing := false) j with
    | .newarray a' => decide (a' = at0) && len == 2 && mj_tz (x.getD 0 0) at0 && mj_wd (x.getD 1 0) 15 0 0 (x.getD 0 0)
    | _ => false) = true := hci
  split at hci
  · simp only [Bool.and_eq_true, beq_iff_eq, decide_eq_true_eq] at hci
    obtain ⟨⟨⟨rfl, rfl⟩, h3⟩, h4⟩ := hci
    have h5 := C.2.2.2.2.1 _ (mj_wd_in h4)
    split at hex
    · rename_i st1 h1 hx1
      have K := ih _ _ _ _ hck2 hll hex
      obtain ⟨e1, e2⟩ := mj_newa_sz hx1
      refine mj_y_of e1 e2 K (fun _ hr k => ?_)
      generalize x.getD 0 0 = t at h3 h5 hx1
      have hA := C.2.2.2.2.2.2.2.2.1
      unfold mj_tz at h3
      split at h3
      · exact mj_w_newarr0 C.1 C.2.1 C.2.2.2.2.2.1 hr hA h5 hdg hx1 k
      · exact mj_w_newarr1 C.1 C.2.1 C.2.2.2.2.2.1 hr hA h5 hdg hx1 k
      · exact mj_w_newarr2 C.1 C.2.1 C.2.2.2.2.2.1 hr hA h5 hdg hx1 k
      · exact mj_w_newarr3 C.1 C.2.1 C.2.2.2.2.2.1 hr hA h5 hdg hx1 k
      · cases h3
    · cases hex
  · cases hci
theorem mj_z_anewarray {k : Nat} (C : mj_Cx p R s m args meth c D A X E own ini d nL cc) (ih : ∀ (pc : Nat) (loc : mj_L) (st : List Value) (h : mj_H), mj_ck own ini rt sp cc is pc = true → loc.length = nL → mj_ex E mj_df go call bi is loc st h = some (r, h') → mj_Snd p l e R s m args below meth c Q D A as0 X n0 z0 h' (pc) loc st h) (hck : mj_ck own ini rt sp cc ((.anewarray k, x, v) :: is) pc = true) (hll : loc.length = nL) (hex : (match mj_newa 4 st h with
    | some (st', h1) => mj_ex E mj_df go call bi is loc st' h1
    | none => none) = some (r, h')) : mj_Snd p l e R s m args below meth c Q D A as0 X n0 z0 h' (pc) loc st h := by
  obtain ⟨j, len, hdg, hci, hck2⟩ := mj_ck_ok rfl hck
  replace hci : (match (generalizing := false) j with
    | .anewarray k' => k' == k && len == 3 && mj_wd (x.getD 1 0) 4 own k 9 && mj_wd (x.getD 2 0) 16 0 0 0
    | _ => false) = true := hci
  split at hci
  · simp only [Bool.and_eq_true, beq_iff_eq] at hci
    obtain ⟨⟨⟨rfl, rfl⟩, h3⟩, h4⟩ := hci
    split at hex
    · rename_i st1 h1 hx1
      have K := ih _ _ _ _ hck2 hll hex
      obtain ⟨e1, e2⟩ := mj_newa_sz hx1
      exact mj_y_of e1 e2 K (fun _ hr k => mj_w_anewarr C.1 C.2.1 C.2.2.2.2.2.1 hr C.2.2.2.2.2.2.2.2.1 C.2.2.2.1 (C.2.2.2.2.1 _ (mj_wd_in h3)) (C.2.2.2.2.1 _ (mj_wd_in h4)) hdg hx1 k)
    · cases hex
  · cases hci
theorem mj_z_new {k : Nat} (C : mj_Cx p R s m args meth c D A X E own ini d nL cc) (ih : ∀ (pc : Nat) (loc : mj_L) (st : List Value) (h : mj_H), mj_ck own ini rt sp cc is pc = true → loc.length = nL → mj_ex E mj_df go call bi is loc st h = some (r, h') → mj_Snd p l e R s m args below meth c Q D A as0 X n0 z0 h' (pc) loc st h) (hck : mj_ck own ini rt sp cc ((.new k, x, v) :: is) pc = true) (hll : loc.length = nL) (hex : mj_ex E mj_df go call bi is loc (.ref h.length :: st) (h ++ [.inr (x.getD 0 0, mj_df (x.getD 0 0))]) = some (r, h')) : mj_Snd p l e R s m args below meth c Q D A as0 X n0 z0 h' (pc) loc st h := by
  obtain ⟨j, len, hdg, hci, hck2⟩ := mj_ck_ok rfl hck
  replace hci : (match (generalizing := false) j with
    | .new k' => k' == k && len == 3 && decide (x.getD 0 0 < 13) && mj_wd (x.getD 1 0) 4 own k (x.getD 0 0)
    | _ => false) = true := hci
  split at hci
  · simp only [Bool.and_eq_true, beq_iff_eq, decide_eq_true_eq] at hci
    obtain ⟨⟨⟨rfl, rfl⟩, h3⟩, h4⟩ := hci
    have K := ih _ _ _ _ hck2 hll hex
    obtain ⟨e1, e2⟩ := mj_siz_le h (.inr (x.getD 0 0, mj_df (x.getD 0 0)))
    obtain ⟨d1, d2, d3, d4⟩ := mj_dfok h3
    exact mj_y_of e1 e2 K (fun _ hr k => mj_w_new C.1 C.2.1 C.2.2.2.2.1 (mj_lay h3) C.2.2.2.1 C.2.2.2.2.2.1 (mj_cl_at h3) _ (mj_tyok h3) (C.2.2.2.2.1 _ (mj_wd_in h4)) (C.2.2.2.2.1 _ (mj_ins h3).1) (C.2.2.2.2.1 _ (mj_ins h3).2) d1 d2 (fun as => d4 as X) hr C.2.2.2.2.2.2.2.2.1 hdg k)
  · cases hci
theorem mj_z_getfield {k : Nat} (C : mj_Cx p R s m args meth c D A X E own ini d nL cc) (ih : ∀ (pc : Nat) (loc : mj_L) (st : List Value) (h : mj_H), mj_ck own ini rt sp cc is pc = true → loc.length = nL → mj_ex E mj_df go call bi is loc st h = some (r, h') → mj_Snd p l e R s m args below meth c Q D A as0 X n0 z0 h' (pc) loc st h) (hck : mj_ck own ini rt sp cc ((.getfield k, x, v) :: is) pc = true) (hll : loc.length = nL) (hex : (match mj_get (x.getD 0 0) (x.getD 1 0) st h with
    | some st' => mj_ex E mj_df go call bi is loc st' h
    | none => none) = some (r, h')) : mj_Snd p l e R s m args below meth c Q D A as0 X n0 z0 h' (pc) loc st h := by
  obtain ⟨j, len, hdg, hci, hck2⟩ := mj_ck_ok rfl hck
  replace hci : (match (generalizing := false) j with
    | .getfield k' => k' == k && len == 3 && if x.getD 0 0 = 16 then (x.getD 1 0 == 0 && mj_wd (x.getD 2 0) 21 own k 0) || (x.getD 1 0 == 1 && mj_wd (x.getD 2 0) 22 own k 0) else decide (x.getD 0 0 < 13) && decide (x.getD 1 0 < (mj_fk (x.getD 0 0)).length) && mj_fl own k (x.getD 2 0) (x.getD 0 0) (x.getD 1 0)
    | _ => false) = true := hci
  split at hci
  · rw [Bool.and_eq_true, Bool.and_eq_true] at hci
    obtain ⟨⟨hk, hl3⟩, hci⟩ := hci
    rw [beq_iff_eq] at hk hl3
    subst hk
    subst hl3
    split at hex
    · rename_i st1 hx1
      have K := ih _ _ _ _ hck2 hll hex
      refine ⟨K.1, K.2.1, fun hr => ?_⟩
      by_cases h16 : x.getD 0 0 = 16
      · rw [if_pos h16] at hci
        simp only [Bool.or_eq_true, Bool.and_eq_true, beq_iff_eq] at hci
        obtain ⟨-, ⟨adK, adV, z2, z3, z4, z5, -, -, zS⟩, -⟩ := C.2.2.2.2.2.2.2.1
        obtain ⟨-, c0, v0, -⟩ := zS.1 0 (by decide)
        obtain ⟨-, c1, v1, -⟩ := zS.1 1 (by decide)
        unfold mj_get at hx1
        split at hx1
        · rename_i kk q
          rw [if_pos h16] at hx1
          split at hx1
          · rename_i v9 hv9
            cases hx1
            have K2 := K.2.2 hr
            rcases hci with ⟨f0, hw⟩ | ⟨f0, hw⟩
            · rw [f0] at hv9
              have hlk := C.2.2.2.2.1 _ (mj_wd_in hw)
              match kk, hv9 with
              | 2, hv9 => cases hv9; exact mj_w_getX C.1 C.2.1 C.2.2.2.1 z2 (f := 0) rfl (fun as => Option.map_eq_some_iff.mpr ⟨_, z4, rfl⟩) rfl v0 hlk hdg K2
              | 3, hv9 => cases hv9; exact mj_w_getX C.1 C.2.1 C.2.2.2.1 z3 (f := 0) rfl (fun as => Option.map_eq_some_iff.mpr ⟨_, z5, rfl⟩) rfl v1 hlk hdg K2
              | 0, hv9 => cases hv9
              | 1, hv9 => cases hv9
              | n + 4, hv9 => cases hv9
            · rw [f0] at hv9
              have hlk := C.2.2.2.2.1 _ (mj_wd_in hw)
              match kk, hv9 with
              | 2, hv9 => cases hv9; exact mj_w_getX C.1 C.2.1 C.2.2.2.1 z2 (f := 1) rfl (fun as => rfl) rfl c0 hlk hdg K2
              | 3, hv9 => cases hv9; exact mj_w_getX C.1 C.2.1 C.2.2.2.1 z3 (f := 1) rfl (fun as => rfl) rfl c1 hlk hdg K2
              | 0, hv9 => cases hv9
              | 1, hv9 => cases hv9
              | n + 4, hv9 => cases hv9
          · cases hx1
        · rename_i q9 r9
          split at hx1
          · rename_i c' fs hcq
            split at hx1
            · rename_i hcc
              intro hn hz as ls sw ws H locs ha hl hs hh hP hD hS
              obtain ⟨a, s2, rfl, hq, hs2⟩ := mj_SR_ref hs
              obtain ⟨e2, hw, hcr⟩ := mj_HR_at hh hcq hq
              obtain ⟨gs, rfl, -⟩ := mj_CR_obj hcr
              obtain ⟨rr, hr1, -⟩ := hP _ _ hw
              have hr2 : mj_cl[c']? = some rr := hr1
              rw [hcc, h16] at hr2
              cases hr2
            · cases hx1
          · cases hx1
        · cases hx1
      · rw [if_neg h16] at hci
        simp only [Bool.and_eq_true, decide_eq_true_eq, mj_fl, Bool.or_eq_true] at hci
        obtain ⟨⟨h3, h4⟩, h5, h6⟩ := hci
        obtain ⟨d1, d2, d3, d4⟩ := mj_dfok h3
        rw [d3] at h4
        refine mj_w_getfield C.1 C.2.1 C.2.2.2.2.1 (mj_lay h3) C.2.2.2.1 C.2.2.2.2.2.1 (mj_cl_at h3) h16 h4 ?_ hdg hx1 (K.2.2 hr)
        rcases h6 with h6 | h6
        · have h7 := mj_wd_in h6
          rw [mj_wq2 h5] at h7
          exact Or.inl (C.2.2.2.2.1 _ h7)
        · have h7 := mj_wd_in h6
          rw [mj_wq3 h5] at h7
          exact Or.inr ⟨_, C.2.2.2.2.1 _ h7⟩
    · cases hex
  · cases hci
theorem mj_z_checkcast {k : Nat} (C : mj_Cx p R s m args meth c D A X E own ini d nL cc) (ih : ∀ (pc : Nat) (loc : mj_L) (st : List Value) (h : mj_H), mj_ck own ini rt sp cc is pc = true → loc.length = nL → mj_ex E mj_df go call bi is loc st h = some (r, h') → mj_Snd p l e R s m args below meth c Q D A as0 X n0 z0 h' (pc) loc st h) (hck : mj_ck own ini rt sp cc ((.checkcast k, x, v) :: is) pc = true) (hll : loc.length = nL) (hex : (match st with
    | .ref q :: r0 => (match h[q]? with
        | some (.inl (0, _)) => mj_ex E mj_df go call bi is loc (.ref q :: r0) h
        | _ => none)
    | _ => none) = some (r, h')) : mj_Snd p l e R s m args below meth c Q D A as0 X n0 z0 h' (pc) loc st h := by
  obtain ⟨j, len, hdg, hci, hck2⟩ := mj_ck_ok rfl hck
  replace hci : (match (generalizing := false) j with
    | .checkcast k' => k' == k && len == 3 && mj_wd (x.getD 0 0) 23 own k 0
    | _ => false) = true := hci
  split at hci
  · simp only [Bool.and_eq_true, beq_iff_eq] at hci
    obtain ⟨⟨rfl, rfl⟩, hw⟩ := hci
    split at hex
    · split at hex
      · rename_i a9 hc9
        have K := ih _ _ _ _ hck2 hll hex
        exact ⟨K.1, K.2.1, fun hr => mj_w_castI C.1 C.2.1 C.2.2.2.1 (C.2.2.2.2.1 _ (mj_wd_in hw)) hc9 hdg (K.2.2 hr)⟩
      · cases hex
    · cases hex
  · cases hci
theorem mj_z_putfield {k : Nat} (C : mj_Cx p R s m args meth c D A X E own ini d nL cc) (ih : ∀ (pc : Nat) (loc : mj_L) (st : List Value) (h : mj_H), mj_ck own ini rt sp cc is pc = true → loc.length = nL → mj_ex E mj_df go call bi is loc st h = some (r, h') → mj_Snd p l e R s m args below meth c Q D A as0 X n0 z0 h' (pc) loc st h) (hck : mj_ck own ini rt sp cc ((.putfield k, x, v) :: is) pc = true) (hll : loc.length = nL) (hex : (match mj_put (x.getD 0 0) (x.getD 1 0) (x.getD 2 0) st h with
    | some (st', h1) => mj_ex E mj_df go call bi is loc st' h1
    | none => none) = some (r, h')) : mj_Snd p l e R s m args below meth c Q D A as0 X n0 z0 h' (pc) loc st h := by
  obtain ⟨j, len, hdg, hci, hck2⟩ := mj_ck_ok rfl hck
  replace hci : (match (generalizing := false) j with
    | .putfield k' => k' == k && len == 3 && decide (x.getD 0 0 < 13) && decide (x.getD 1 0 < (mj_fk (x.getD 0 0)).length) && mj_wd (x.getD 3 0) 2 own k (100 * x.getD 0 0 + x.getD 1 0) && decide (x.getD 1 0 < 100)
        && (match (generalizing := false) (mj_fk (x.getD 0 0))[x.getD 1 0]? with
          | some q => q.2 == x.getD 2 0 && (q.1 == false || (ini && x.getD 0 0 == own))
          | none => false)
    | _ => false) = true := hci
  split at hci
  · simp only [Bool.and_eq_true, beq_iff_eq, decide_eq_true_eq] at hci
    obtain ⟨⟨⟨⟨⟨⟨rfl, rfl⟩, h3⟩, h4⟩, h5⟩, h6⟩, h7⟩ := hci
    obtain ⟨d1, d2, d3, d4⟩ := mj_dfok h3
    rw [d3] at h4
    obtain ⟨g1, g2⟩ := mj_fkok h3 _ h4
    rw [g1] at h7
    simp only [Bool.and_eq_true, Bool.or_eq_true, beq_iff_eq] at h7
    have h8 := mj_wd_in h5
    rw [mj_wq2 h6] at h8
    have h9 := C.2.2.2.2.1 _ h8
    split at hex
    · rename_i st1 h1 hx1
      have K := ih _ _ _ _ hck2 hll hex
      obtain ⟨e1, e2⟩ := mj_put_sz hx1
      refine mj_y_of (Nat.le_of_eq e1.symm) (Nat.le_of_eq e2.symm) K (fun _ _ k => mj_w_putfield C.1 C.2.1 C.2.2.2.2.1 (mj_lay h3) C.2.2.2.1 C.2.2.2.2.2.1 (mj_cl_at h3) h4 (Or.inl h9) (mj_nmok h3) _ (mj_tyok h3) h7.1 ?_ hdg hx1 k)
      by_cases hf : ((mj_cc (x.getD 0 0)).2.1 (x.getD 1 0)).2.2.2 = false
      · exact Or.inl hf
      · refine Or.inr ⟨by simpa using hf, ?_, ?_, h9⟩
        · rcases h7.2 with z | z
          · exact absurd z hf
          · exact C.2.2.2.2.2.2.2.2.2.1 z.1
        · rcases h7.2 with z | z
          · exact absurd z hf
          · rw [g2, z.2]; rfl
    · cases hex
  · cases hci
end MJY
