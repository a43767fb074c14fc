/-! the main row itself: calls, ends, all instructions together; and a method's contract out of its run -/
section MJY
variable {p : Program} {l : Launch} {e : Env} {R : Room} {s : State} {m : MethodId} {args : Array Value} {below : List Frame} {meth : Method} {c : Code} {Q : State → Prop} {D : va_G} {A : Nat → Prop} {as0 : List Nat} {X : Nat → Option Nat} {n0 z0 : Nat} {E : mj_E}
variable {cc : ByteArray} {own nL d : Nat} {ini : Bool} {rt : Option FieldType} {sp : Nat → Nat} {r : Option Value} {h' : mj_H} {go : Nat → mj_L → List Value → mj_H → mj_R} {call bi : Nat → List Value → mj_H → mj_R}
variable {pc len : Nat} {j : Instr} {loc : mj_L} {st st' : List Value} {h h1 : mj_H} {x : List Nat} {v : Value} {is : List mj_I}
theorem mj_z_invokevirtual {k : Nat} (C : mj_Cx p R s m args meth c D A X E own ini d nL cc) (hcall : ∀ (mm : Nat) (av : List Value) (h : mj_H) (r1 : Option Value) (h1 : mj_H), mm < mj_n → call mm av h = some (r1, h1) → h.length ≤ h1.length ∧ mj_siz h ≤ mj_siz h1 ∧ ∃ dd, d = dd + 1 ∧ mj_Met l D mj_cl X E (mj_yn mm) (mj_ws mm) dd av h r1 h1) (ih : ∀ (pc : Nat) (loc : mj_L) (st : List Value) (h : mj_H), mj_ck own ini rt sp cc is pc = true → loc.length = nL → mj_ex E mj_df go call bi is loc st h = some (r, h') → mj_Snd p l e R s m args below meth c Q D A as0 X n0 z0 h' (pc) loc st h) (hck : mj_ck own ini rt sp cc ((.invokevirtual k, x, v) :: is) pc = true) (hll : loc.length = nL) (hex : (match mj_pop (x.getD 1 0) st [] with
    | some (as, q) => if mj_rcv (x.getD 2 0) as h = true ∧ mj_le4 q = true then (match call (x.getD 0 0) as h with
        | some (rv, h1) => mj_ex E mj_df go call bi is loc (rv.toList ++ q) h1
        | none => none)
      else none
    | none => none) = some (r, h')) : mj_Snd p l e R s m args below meth c Q D A as0 X n0 z0 h' (pc) loc st h := by
  obtain ⟨j, len, hdg, hci, hck2⟩ := mj_ck_ok rfl hck
  replace hci : (match (generalizing := false) j with
    | .invokevirtual k' => k' == k && len == 3 && decide (x.getD 0 0 < mj_n) && mj_lk own k (x.getD 3 0) (x.getD 0 0) && (mj_meth (x.getD 0 0)).1.2.2.2 == false && x.getD 1 0 == (mj_dsc (mj_meth (x.getD 0 0))).2 + 1 && x.getD 2 0 == (mj_meth (x.getD 0 0)).1.1 && mj_ini (x.getD 0 0) == false
    | _ => false) = true := hci
  split at hci
  · simp only [Bool.and_eq_true, beq_iff_eq, decide_eq_true_eq, mj_lk, Bool.or_eq_true] at hci
    obtain ⟨⟨⟨⟨⟨⟨⟨rfl, rfl⟩, h3⟩, h4⟩, h5⟩, h6⟩, h8⟩, h9⟩ := hci
    obtain ⟨av, q, hp, hg, rv, h1, hc, hex2⟩ : ∃ as q, mj_pop (x.getD 1 0) st [] = some (as, q) ∧ (mj_rcv (x.getD 2 0) as h = true ∧ mj_le4 q = true) ∧ ∃ rv h1, call (x.getD 0 0) as h = some (rv, h1) ∧ mj_ex E mj_df go call bi is loc (rv.toList ++ q) h1 = some (r, h') := by
      split at hex
      · split at hex
        · split at hex
          · exact ⟨_, _, by assumption, by assumption, _, _, by assumption, hex⟩
          · cases hex
        · cases hex
      · cases hex
    obtain ⟨bs, b1, b2, b3⟩ := mj_pop_app hp
    have hst : st = av.reverse ++ q := by rw [b3, b2]; simp
    have hal : av.length = x.getD 1 0 := by rw [b2]; simp [b1]
    clear hex
    subst hst
    have K := ih _ _ _ _ hck2 hll hex2
    obtain ⟨e1, e2, dd, rfl, hM⟩ := hcall _ _ _ _ _ h3 hc
    have hlk : mj_wq (0, own, _, x.getD 0 0) ∈ mj_Ts ∨ mj_wq (1, own, _, x.getD 0 0) ∈ mj_Ts := h4.imp (fun z => mj_wd_in z) (fun z => mj_wd_in z)
    exact mj_y_of e1 e2 K (fun _ hr k => mj_w_inv (st := []) h3 C hM hlk hll e1 e2 hr hg.2 (Or.inl ⟨h5, h9, by rw [← h8]; exact hg.1, by rw [hal, h6], hdg⟩) k)
  · cases hci
theorem mj_z_invokespecial {k : Nat} (C : mj_Cx p R s m args meth c D A X E own ini d nL cc) (hcall : ∀ (mm : Nat) (av : List Value) (h : mj_H) (r1 : Option Value) (h1 : mj_H), mm < mj_n → call mm av h = some (r1, h1) → h.length ≤ h1.length ∧ mj_siz h ≤ mj_siz h1 ∧ ∃ dd, d = dd + 1 ∧ mj_Met l D mj_cl X E (mj_yn mm) (mj_ws mm) dd av h r1 h1) (ih : ∀ (pc : Nat) (loc : mj_L) (st : List Value) (h : mj_H), mj_ck own ini rt sp cc is pc = true → loc.length = nL → mj_ex E mj_df go call bi is loc st h = some (r, h') → mj_Snd p l e R s m args below meth c Q D A as0 X n0 z0 h' (pc) loc st h) (hck : mj_ck own ini rt sp cc ((.invokespecial k, x, v) :: is) pc = true) (hll : loc.length = nL) (hex : (match mj_pop (x.getD 1 0) st [] with
    | some (as, q) => if mj_rcv (x.getD 2 0) as h = true ∧ mj_le4 q = true then (match call (x.getD 0 0) as h with
        | some (rv, h1) => mj_ex E mj_df go call bi is loc (rv.toList ++ q) h1
        | none => none)
      else none
    | none => none) = some (r, h')) : mj_Snd p l e R s m args below meth c Q D A as0 X n0 z0 h' (pc) loc st h := by
  obtain ⟨j, len, hdg, hci, hck2⟩ := mj_ck_ok rfl hck
  replace hci : (match (generalizing := false) j with
    | .invokespecial k' => k' == k && len == 3 && decide (x.getD 0 0 < mj_n) && mj_lk own k (x.getD 3 0) (x.getD 0 0) && (mj_meth (x.getD 0 0)).1.2.2.2 == false && x.getD 1 0 == (mj_dsc (mj_meth (x.getD 0 0))).2 + 1 && mj_ini (x.getD 0 0) == true && (match (generalizing := false) (mj_meth (x.getD 0 0)).2.2.2 with
          | none => true
          | some _ => false)
    | _ => false) = true := hci
  split at hci
  · simp only [Bool.and_eq_true, beq_iff_eq, decide_eq_true_eq, mj_lk, Bool.or_eq_true] at hci
    obtain ⟨⟨⟨⟨⟨⟨⟨rfl, rfl⟩, h3⟩, h4⟩, h5⟩, h6⟩, h7⟩, h8⟩ := hci
    obtain ⟨av, q, hp, hg, rv, h1, hc, hex2⟩ : ∃ as q, mj_pop (x.getD 1 0) st [] = some (as, q) ∧ (mj_rcv (x.getD 2 0) as h = true ∧ mj_le4 q = true) ∧ ∃ rv h1, call (x.getD 0 0) as h = some (rv, h1) ∧ mj_ex E mj_df go call bi is loc (rv.toList ++ q) h1 = some (r, h') := by
      split at hex
      · split at hex
        · split at hex
          · exact ⟨_, _, by assumption, by assumption, _, _, by assumption, hex⟩
          · cases hex
        · cases hex
      · cases hex
    obtain ⟨bs, b1, b2, b3⟩ := mj_pop_app hp
    have hst : st = av.reverse ++ q := by rw [b3, b2]; simp
    have hal : av.length = x.getD 1 0 := by rw [b2]; simp [b1]
    clear hex
    subst hst
    have K := ih _ _ _ _ hck2 hll hex2
    obtain ⟨e1, e2, dd, rfl, hM⟩ := hcall _ _ _ _ _ h3 hc
    have hno : (mj_meth (x.getD 0 0)).2.2.2 = none := by
      revert h8
      cases (mj_meth (x.getD 0 0)).2.2.2 with
      | none => intro _; rfl
      | some z => intro z2; cases z2
    have hlk : mj_wq (0, own, _, x.getD 0 0) ∈ mj_Ts ∨ mj_wq (1, own, _, x.getD 0 0) ∈ mj_Ts := h4.imp (fun z => mj_wd_in z) (fun z => mj_wd_in z)
    exact mj_y_of e1 e2 K (fun _ hr k => mj_w_inv (st := []) h3 C hM hlk hll e1 e2 hr hg.2 (Or.inr (Or.inl ⟨h5, h7, hno, ⟨_, hg.1⟩, by rw [hal, h6], hdg⟩)) k)
  · cases hci
theorem mj_z_invokestatic {k : Nat} (C : mj_Cx p R s m args meth c D A X E own ini d nL cc) (hcall : ∀ (mm : Nat) (av : List Value) (h : mj_H) (r1 : Option Value) (h1 : mj_H), mm < mj_n → call mm av h = some (r1, h1) → h.length ≤ h1.length ∧ mj_siz h ≤ mj_siz h1 ∧ ∃ dd, d = dd + 1 ∧ mj_Met l D mj_cl X E (mj_yn mm) (mj_ws mm) dd av h r1 h1) (ih : ∀ (pc : Nat) (loc : mj_L) (st : List Value) (h : mj_H), mj_ck own ini rt sp cc is pc = true → loc.length = nL → mj_ex E mj_df go call bi is loc st h = some (r, h') → mj_Snd p l e R s m args below meth c Q D A as0 X n0 z0 h' (pc) loc st h) (hck : mj_ck own ini rt sp cc ((.invokestatic k, x, v) :: is) pc = true) (hll : loc.length = nL) (hex : (match mj_pop (x.getD 1 0) st [] with
    | some (as, q) => if mj_le4 q = true then (match call (x.getD 0 0) as h with
        | some (rv, h1) => mj_ex E mj_df go call bi is loc (rv.toList ++ q) h1
        | none => none)
      else none
    | none => none) = some (r, h')) : mj_Snd p l e R s m args below meth c Q D A as0 X n0 z0 h' (pc) loc st h := by
  obtain ⟨j, len, hdg, hci, hck2⟩ := mj_ck_ok rfl hck
  replace hci : (match (generalizing := false) j with
    | .invokestatic k' => k' == k && len == 3 && decide (x.getD 0 0 < mj_n) && mj_lk own k (x.getD 3 0) (x.getD 0 0) && (mj_meth (x.getD 0 0)).1.2.2.2 == true && x.getD 1 0 == (mj_dsc (mj_meth (x.getD 0 0))).2
    | _ => false) = true := hci
  split at hci
  · simp only [Bool.and_eq_true, beq_iff_eq, decide_eq_true_eq, mj_lk, Bool.or_eq_true] at hci
    obtain ⟨⟨⟨⟨⟨rfl, rfl⟩, h3⟩, h4⟩, h5⟩, h6⟩ := hci
    obtain ⟨av, q, hp, hg, rv, h1, hc, hex2⟩ : ∃ as q, mj_pop (x.getD 1 0) st [] = some (as, q) ∧ (mj_le4 q = true) ∧ ∃ rv h1, call (x.getD 0 0) as h = some (rv, h1) ∧ mj_ex E mj_df go call bi is loc (rv.toList ++ q) h1 = some (r, h') := by
      split at hex
      · split at hex
        · split at hex
          · exact ⟨_, _, by assumption, by assumption, _, _, by assumption, hex⟩
          · cases hex
        · cases hex
      · cases hex
    obtain ⟨bs, b1, b2, b3⟩ := mj_pop_app hp
    have hst : st = av.reverse ++ q := by rw [b3, b2]; simp
    have hal : av.length = x.getD 1 0 := by rw [b2]; simp [b1]
    clear hex
    subst hst
    have K := ih _ _ _ _ hck2 hll hex2
    obtain ⟨e1, e2, dd, rfl, hM⟩ := hcall _ _ _ _ _ h3 hc
    have hlk : mj_wq (0, own, _, x.getD 0 0) ∈ mj_Ts ∨ mj_wq (1, own, _, x.getD 0 0) ∈ mj_Ts := h4.imp (fun z => mj_wd_in z) (fun z => mj_wd_in z)
    exact mj_y_of e1 e2 K (fun _ hr k => mj_w_inv (st := []) h3 C hM hlk hll e1 e2 hr hg (Or.inr (Or.inr ⟨h5, by rw [hal, h6], hdg⟩)) k)
  · cases hci
theorem mj_z_invokedynamic {k : Nat} (C : mj_Cx p R s m args meth c D A X E own ini d nL cc) (hbi : ∀ (b k : Nat) (av : List Value) (h : mj_H) (r1 : Option Value) (h1 : mj_H), bi b av h = some (r1, h1) → b < 6 → Jvm.Cond.methodLink (mj_cn own) k (mj_bn b) ∈ mj_Ts → h.length ≤ h1.length ∧ mj_siz h ≤ mj_siz h1 ∧ ∀ (pc : Nat) (loc : mj_L) (r0 : List Value), loc.length = nL → decode cc pc = .ok (if b = 4 then .invokevirtual k else .invokestatic k, 3) → mj_le4 r0 = true → mj_room R n0 z0 h1 → mj_W p l e R s m args below meth c Q D mj_cl A s.heap as0 X n0 z0 (pc + 3) loc (r1.toList ++ r0) h1 → mj_W p l e R s m args below meth c Q D mj_cl A s.heap as0 X n0 z0 (pc) loc (av.reverse ++ r0) h) (ih : ∀ (pc : Nat) (loc : mj_L) (st : List Value) (h : mj_H), mj_ck own ini rt sp cc is pc = true → loc.length = nL → mj_ex E mj_df go call bi is loc st h = some (r, h') → mj_Snd p l e R s m args below meth c Q D A as0 X n0 z0 h' (pc) loc st h) (hck : mj_ck own ini rt sp cc ((.invokedynamic k, x, v) :: is) pc = true) (hll : loc.length = nL) (hex : (match mj_pop (x.getD 1 0) st [] with
    | some (as, q) => if mj_le4 q = true then (match bi (x.getD 0 0) as h with
        | some (rv, h1) => mj_ex E mj_df go call bi is loc (rv.toList ++ q) h1
        | none => none)
      else none
    | none => none) = some (r, h')) : mj_Snd p l e R s m args below meth c Q D A as0 X n0 z0 h' (pc) loc st h := by
  obtain ⟨j, len, hdg, hci, hck2⟩ := mj_ck_ok rfl hck
  replace hci : (len == 3 && x.getD 1 0 == mj_ba (x.getD 0 0) && decide (x.getD 0 0 < 6) && mj_wd (x.getD 2 0) 13 own k (x.getD 0 0) && decide (j = if x.getD 0 0 = 4 then .invokevirtual k else .invokestatic k)) = true := hci
  simp only [Bool.and_eq_true, beq_iff_eq, decide_eq_true_eq] at hci
  obtain ⟨⟨⟨⟨rfl, h2⟩, h3⟩, h4⟩, h5⟩ := hci
  obtain ⟨av, q, hp, hg, rv, h1, hc, hex2⟩ : ∃ as q, mj_pop (x.getD 1 0) st [] = some (as, q) ∧ mj_le4 q = true ∧ ∃ rv h1, bi (x.getD 0 0) as h = some (rv, h1) ∧ mj_ex E mj_df go call bi is loc (rv.toList ++ q) h1 = some (r, h') := by
    split at hex
    · split at hex
      · split at hex
        · exact ⟨_, _, by assumption, by assumption, _, _, by assumption, hex⟩
        · cases hex
      · cases hex
    · cases hex
  obtain ⟨bs, b1, b2, b3⟩ := mj_pop_app hp
  have hst : st = av.reverse ++ q := by rw [b3, b2]; simp
  clear hex
  subst hst
  have K := ih _ _ _ _ hck2 hll hex2
  have hl : Jvm.Cond.methodLink (mj_cn own) k (mj_bn (x.getD 0 0)) ∈ mj_Ts := mj_wd_in h4
  obtain ⟨e1, e2, F⟩ := hbi _ _ _ _ _ _ hc h3 hl
  exact mj_y_of e1 e2 K (fun _ hr k => F _ _ _ hll (by rw [hdg, h5]) hg hr k)
theorem mj_z_athrow (C : mj_Cx p R s m args meth c D A X E own ini d nL cc) (ih : ∀ (pc : Nat) (loc : mj_L) (st : List Value) (h : mj_H), mj_ck own ini rt sp cc is pc = true → loc.length = nL → mj_ex E mj_df go call bi is loc st h = some (r, h') → mj_Snd p l e R s m args below meth c Q D A as0 X n0 z0 h' (pc) loc st h) (hck : mj_ck own ini rt sp cc ((.athrow, x, v) :: is) pc = true) (hll : loc.length = nL) (hex : (match st with
    | [.ref _] => mj_ex E mj_df go call bi is loc [] h
    | _ => none) = some (r, h')) : mj_Snd p l e R s m args below meth c Q D A as0 X n0 z0 h' (pc) loc st h := by
  obtain ⟨j, len, hdg, hci, hck2⟩ := mj_ck_ok rfl hck
  replace hci : (len == 3 && decide (j = .invokespecial (x.getD 0 0)) && mj_wd (x.getD 1 0) 14 own (x.getD 0 0) 0) = true := hci
  simp only [Bool.and_eq_true, beq_iff_eq, decide_eq_true_eq] at hci
  obtain ⟨⟨rfl, rfl⟩, h3⟩ := hci
  split at hex
  · have K := ih _ _ _ _ hck2 hll hex
    have hl : Jvm.Cond.methodLink (mj_cn own) (x.getD 0 0) Lib.objectInit ∈ mj_Ts := mj_wd_in h3
    refine ⟨K.1, K.2.1, fun hr => mj_w_objInit C.1 C.2.1 C.2.2.2.1 (by rw [C.2.2.1, hll]) (C.2.2.2.2.1 _ hl) (C.2.2.2.2.1 _ mj_obji) (C.2.2.2.2.1 _ mj_objc) ⟨?_, ?_⟩ rfl hdg (K.2.2 hr)⟩
    · have := C.2.2.2.2.2.2.2.2.2.2.1; omega
    · have := C.2.2.2.2.2.2.2.2.2.2.2.1; omega
  · cases hex
theorem mj_z_ret {i : Instr} (hret : ∀ (pc : Nat) (loc : mj_L) (st : List Value) (i : Instr) (x : List Nat), loc.length = nL → mj_ret i x st = some r → decode cc pc = .ok (i, 1) → mj_rk rt i x = true → mj_W p l e R s m args below meth c Q D mj_cl A s.heap as0 X n0 z0 (pc) loc st h') (hll : loc.length = nL) (hdg : decode cc pc = .ok (i, 1)) (hrk : mj_rk rt i x = true) (hex : (match mj_ret i x st with
    | some rv => some (rv, h)
    | none => none) = some (r, h')) : mj_Snd p l e R s m args below meth c Q D A as0 X n0 z0 h' (pc) loc st h := by
  split at hex
  · rename_i rv hrv
    cases hex
    exact ⟨Nat.le_refl _, Nat.le_refl _, fun _ => hret _ _ _ _ _ hll hrv hdg hrk⟩
  · cases hex
theorem mj_zr_ireturn (hret : ∀ (pc : Nat) (loc : mj_L) (st : List Value) (i : Instr) (x : List Nat), loc.length = nL → mj_ret i x st = some r → decode cc pc = .ok (i, 1) → mj_rk rt i x = true → mj_W p l e R s m args below meth c Q D mj_cl A s.heap as0 X n0 z0 (pc) loc st h') (hck : mj_ck own ini rt sp cc ((.ireturn, x, v) :: is) pc = true) (hll : loc.length = nL) (hex : (match mj_ret .ireturn x st with
    | some rv => some (rv, h)
    | none => none) = some (r, h')) : mj_Snd p l e R s m args below meth c Q D A as0 X n0 z0 h' (pc) loc st h := by
  obtain ⟨j, len, hdg, hci, hck2⟩ := mj_ck_ok rfl hck
  replace hci : ((decide (j = .ireturn) && len == 1) && mj_rk rt .ireturn x) = true := hci
  rw [Bool.and_eq_true] at hci
  obtain ⟨rfl, rfl⟩ := mj_dj hci.1
  exact mj_z_ret hret hll hdg hci.2 hex
theorem mj_zr_lreturn (hret : ∀ (pc : Nat) (loc : mj_L) (st : List Value) (i : Instr) (x : List Nat), loc.length = nL → mj_ret i x st = some r → decode cc pc = .ok (i, 1) → mj_rk rt i x = true → mj_W p l e R s m args below meth c Q D mj_cl A s.heap as0 X n0 z0 (pc) loc st h') (hck : mj_ck own ini rt sp cc ((.lreturn, x, v) :: is) pc = true) (hll : loc.length = nL) (hex : (match mj_ret .lreturn x st with
    | some rv => some (rv, h)
    | none => none) = some (r, h')) : mj_Snd p l e R s m args below meth c Q D A as0 X n0 z0 h' (pc) loc st h := by
  obtain ⟨j, len, hdg, hci, hck2⟩ := mj_ck_ok rfl hck
  replace hci : ((decide (j = .lreturn) && len == 1) && mj_rk rt .lreturn x) = true := hci
  rw [Bool.and_eq_true] at hci
  obtain ⟨rfl, rfl⟩ := mj_dj hci.1
  exact mj_z_ret hret hll hdg hci.2 hex
theorem mj_zr_areturn (hret : ∀ (pc : Nat) (loc : mj_L) (st : List Value) (i : Instr) (x : List Nat), loc.length = nL → mj_ret i x st = some r → decode cc pc = .ok (i, 1) → mj_rk rt i x = true → mj_W p l e R s m args below meth c Q D mj_cl A s.heap as0 X n0 z0 (pc) loc st h') (hck : mj_ck own ini rt sp cc ((.areturn, x, v) :: is) pc = true) (hll : loc.length = nL) (hex : (match mj_ret .areturn x st with
    | some rv => some (rv, h)
    | none => none) = some (r, h')) : mj_Snd p l e R s m args below meth c Q D A as0 X n0 z0 h' (pc) loc st h := by
  obtain ⟨j, len, hdg, hci, hck2⟩ := mj_ck_ok rfl hck
  replace hci : ((decide (j = .areturn) && len == 1) && mj_rk rt .areturn x) = true := hci
  rw [Bool.and_eq_true] at hci
  obtain ⟨rfl, rfl⟩ := mj_dj hci.1
  exact mj_z_ret hret hll hdg hci.2 hex
theorem mj_zr_return_ (hret : ∀ (pc : Nat) (loc : mj_L) (st : List Value) (i : Instr) (x : List Nat), loc.length = nL → mj_ret i x st = some r → decode cc pc = .ok (i, 1) → mj_rk rt i x = true → mj_W p l e R s m args below meth c Q D mj_cl A s.heap as0 X n0 z0 (pc) loc st h') (hck : mj_ck own ini rt sp cc ((.return_, x, v) :: is) pc = true) (hll : loc.length = nL) (hex : (match mj_ret .return_ x st with
    | some rv => some (rv, h)
    | none => none) = some (r, h')) : mj_Snd p l e R s m args below meth c Q D A as0 X n0 z0 h' (pc) loc st h := by
  obtain ⟨j, len, hdg, hci, hck2⟩ := mj_ck_ok rfl hck
  replace hci : ((decide (j = .return_) && len == 1) && mj_rk rt .return_ x) = true := hci
  rw [Bool.and_eq_true] at hci
  obtain ⟨rfl, rfl⟩ := mj_dj hci.1
  exact mj_z_ret hret hll hdg hci.2 hex
theorem mj_z_pu {i : Instr} (C : mj_Cx p R s m args meth c D A X E own ini d nL cc) (ih : ∀ (pc : Nat) (loc : mj_L) (st : List Value) (h : mj_H), mj_ck own ini rt sp cc is pc = true → loc.length = nL → mj_ex E mj_df go call bi is loc st h = some (r, h') → mj_Snd p l e R s m args below meth c Q D A as0 X n0 z0 h' (pc) loc st h) (hni : mj_nj i = true) (hck : mj_ck own ini rt sp cc ((i, x, v) :: is) pc = true) (hll : loc.length = nL) (hcf : ∀ j len, mj_ci own ini rt sp pc j len i x v = (decide (j = i) && len == 1)) (hex : (match mj_pu i st with
    | some st' => mj_ex E mj_df go call bi is loc st' h
    | none => none) = some (r, h')) : mj_Snd p l e R s m args below meth c Q D A as0 X n0 z0 h' (pc) loc st h := by
  obtain ⟨j, len, hdg, hci, hck2⟩ := mj_ck_ok hni hck
  rw [hcf] at hci
  split at hex
  · rename_i st1 hx1
    exact mj_y_pu C hdg hci hx1 (ih _ _ _ _ hck2 hll hex)
  · cases hex
set_option maxHeartbeats 4000000 in
theorem mj_ex_ok (C : mj_Cx p R s m args meth c D A X E own ini d nL cc) (hgo : ∀ (b : Nat) (loc : mj_L) (st : List Value) (h : mj_H), loc.length = nL → go b loc st h = some (r, h') → mj_Snd p l e R s m args below meth c Q D A as0 X n0 z0 h' (sp b) loc st h)
    (hcall : ∀ (mm : Nat) (av : List Value) (h : mj_H) (r1 : Option Value) (h1 : mj_H), mm < mj_n → call mm av h = some (r1, h1) → h.length ≤ h1.length ∧ mj_siz h ≤ mj_siz h1 ∧ ∃ dd, d = dd + 1 ∧ mj_Met l D mj_cl X E (mj_yn mm) (mj_ws mm) dd av h r1 h1)
    (hbi : ∀ (b k : Nat) (av : List Value) (h : mj_H) (r1 : Option Value) (h1 : mj_H), bi b av h = some (r1, h1) → b < 6 → Jvm.Cond.methodLink (mj_cn own) k (mj_bn b) ∈ mj_Ts → h.length ≤ h1.length ∧ mj_siz h ≤ mj_siz h1 ∧ ∀ (pc : Nat) (loc : mj_L) (r0 : List Value), loc.length = nL → decode cc pc = .ok (if b = 4 then .invokevirtual k else .invokestatic k, 3) → mj_le4 r0 = true → mj_room R n0 z0 h1 → mj_W p l e R s m args below meth c Q D mj_cl A s.heap as0 X n0 z0 (pc + 3) loc (r1.toList ++ r0) h1 → mj_W p l e R s m args below meth c Q D mj_cl A s.heap as0 X n0 z0 (pc) loc (av.reverse ++ r0) h)
    (hret : ∀ (pc : Nat) (loc : mj_L) (st : List Value) (i : Instr) (x : List Nat), loc.length = nL → mj_ret i x st = some r → decode cc pc = .ok (i, 1) → mj_rk rt i x = true → mj_W p l e R s m args below meth c Q D mj_cl A s.heap as0 X n0 z0 (pc) loc st h') : ∀ (is : List mj_I) (pc : Nat) (loc : mj_L) (st : List Value) (h : mj_H), mj_ck own ini rt sp cc is pc = true → loc.length = nL → mj_ex E mj_df go call bi is loc st h = some (r, h') → mj_Snd p l e R s m args below meth c Q D A as0 X n0 z0 h' (pc) loc st h := by
  intro is
  induction is with
  | nil => intro pc loc st h _ _ hex; cases hex
  | cons it is ih =>
    obtain ⟨i, x, v⟩ := it
    intro pc loc st h hck hll hex
    cases i with
    | ldc k => exact mj_z_ldc C ih hck hll hex
    | iload k => exact mj_z_iload C ih hck hll hex
    | lload k => exact mj_z_lload C ih hck hll hex
    | aload k => exact mj_z_aload C ih hck hll hex
    | istore k => exact mj_z_istore C ih hck hll hex
    | lstore k => exact mj_z_lstore C ih hck hll hex
    | astore k => exact mj_z_astore C ih hck hll hex
    | iinc k n => exact mj_z_iinc C ih hck hll hex
    | nop => exact mj_z_nop C ih hck hll hex
    | jsr o => exact mj_z_jsr hgo hck hll hex
    | goto o => exact mj_z_goto C hgo hck hll hex
    | ifCond cd o => exact mj_z_ifCond C hgo hck hll hex
    | if_icmp cd o => exact mj_z_if_icmp C hgo hck hll hex
    | ifnull o => exact mj_z_ifnull C hgo hck hll hex
    | ifnonnull o => exact mj_z_ifnonnull C hgo hck hll hex
    | tableswitch d lo hi of => exact mj_z_tsw C hgo hck hll hex
    | lookupswitch d ps => exact mj_z_lsw C hgo hck hll hex
    | ireturn => exact mj_zr_ireturn hret hck hll hex
    | lreturn => exact mj_zr_lreturn hret hck hll hex
    | areturn => exact mj_zr_areturn hret hck hll hex
    | return_ => exact mj_zr_return_ hret hck hll hex
    | iaload => exact mj_z_iaload C ih hck hll hex
    | caload => exact mj_z_caload C ih hck hll hex
    | baload => exact mj_z_baload C ih hck hll hex
    | laload => exact mj_z_laload C ih hck hll hex
    | aaload => exact mj_z_aaload C ih hck hll hex
    | iastore => exact mj_z_iastore C ih hck hll hex
    | castore => exact mj_z_castore C ih hck hll hex
    | bastore => exact mj_z_bastore C ih hck hll hex
    | lastore => exact mj_z_lastore C ih hck hll hex
    | aastore => exact mj_z_aastore C ih hck hll hex
    | arraylength => exact mj_z_arraylength C ih hck hll hex
    | athrow => exact mj_z_athrow C ih hck hll hex
    | newarray k => exact mj_z_newarray C ih hck hll hex
    | anewarray k => exact mj_z_anewarray C ih hck hll hex
    | new k => exact mj_z_new C ih hck hll hex
    | getfield k => exact mj_z_getfield C ih hck hll hex
    | putfield k => exact mj_z_putfield C ih hck hll hex
    | checkcast k => exact mj_z_checkcast C ih hck hll hex
    | invokevirtual k => exact mj_z_invokevirtual C hcall ih hck hll hex
    | invokespecial k => exact mj_z_invokespecial C hcall ih hck hll hex
    | invokestatic k => exact mj_z_invokestatic C hcall ih hck hll hex
    | invokedynamic k => exact mj_z_invokedynamic C hbi ih hck hll hex
    | _ => exact mj_z_pu C ih rfl hck hll (fun _ _ => rfl) hex
end MJY
