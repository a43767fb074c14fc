/-! runs without a bound on their length: mj_gi is the limit of mj_rn; its equation is what all that follows goes by -/
/-- n: how many blocks at most; d: how deep calls may go -/
def mj_rn (E : mj_E) (bi : Nat → List Value → mj_H → mj_R) : Nat → Nat → Nat → Nat → mj_L → List Value → mj_H → mj_R
  | 0, _, _, _, _, _, _ => none
  | n + 1, d, m, b, loc, st, h => mj_ex E mj_df (mj_rn E bi n d m) (fun m' as h' => match d with
    | 0 => none
    | d' + 1 => if (mj_args as).length ≤ (mj_meth m').2.2.1 then mj_rn E bi n d' m' 0 (mj_ent (mj_meth m').2.2.1 as) [] h' else none) bi (mj_blk m b) loc st h
abbrev mj_F : Type := Option (((mj_L × List Value × mj_H) ⊕ (Nat × mj_L × List Value × mj_H)) ⊕ ((Option Value × mj_H) ⊕ (Nat × List Value × List Value)))
/-- what one item does: goes on, jumps, ends, or calls -/
def mj_cf (E : mj_E) (df : Nat → List Value) (bi : Nat → List Value → mj_H → mj_R) (i : Instr) (x : List Nat) (v : Value) (loc : mj_L) (st : List Value) (h : mj_H) : mj_F := match i with
    | .ldc _ => some (.inl (.inl (loc, (v :: st), h)))
    | .iload k => match mj_lget loc k with
      | some (.int y) => some (.inl (.inl (loc, (.int y :: st), h)))
      | _ => none
    | .lload k => match mj_lget loc k with
      | some (.long y) => some (.inl (.inl (loc, (.long y :: st), h)))
      | _ => none
    | .aload k => match mj_lget loc k with
      | some (.ref y) => some (.inl (.inl (loc, (.ref y :: st), h)))
      | some .null => some (.inl (.inl (loc, (.null :: st), h)))
      | some (.retAddr y) => some (.inl (.inl (loc, (.retAddr y :: st), h)))
      | _ => none
    | .istore k => match st with
      | .int y :: r => if k < loc.length ∧ mj_pl loc k = false then some (.inl (.inl ((mj_lset loc k (some (.int y))), r, h))) else none
      | _ => none
    | .lstore k => match st with
      | .long y :: r => if k + 1 < loc.length ∧ mj_pl loc k = false then some (.inl (.inl ((mj_lset (mj_lset loc k (some (.long y))) (k + 1) none), r, h))) else none
      | _ => none
    | .astore k => match st with
      | .ref y :: r => if k < loc.length ∧ mj_pl loc k = false then some (.inl (.inl ((mj_lset loc k (some (.ref y))), r, h))) else none
      | .null :: r => if k < loc.length ∧ mj_pl loc k = false then some (.inl (.inl ((mj_lset loc k (some .null)), r, h))) else none
      | _ => none
    | .iinc k _ => match mj_lget loc k, v with
      | some (.int y), .int z => if k < loc.length ∧ mj_pl loc k = false then some (.inl (.inl ((mj_lset loc k (some (.int (y + z)))), st, h))) else none
      | _, _ => none
    | .nop => some (.inl (.inl ((mj_kill x loc), st, h)))
    | .jsr _ => some (.inl (.inr ((x.getD 0 0), loc, st, h)))
    | .goto _ => some (.inl (.inr ((x.getD 0 0), loc, st, h)))
    | .ifCond c _ => match st with
      | .int a :: r => if mj_cmp c a 0 = true then some (.inl (.inr ((x.getD 0 0), loc, r, h))) else some (.inl (.inr ((x.getD 1 0), loc, r, h)))
      | _ => none
    | .if_icmp c _ => match st with
      | .int b :: .int a :: r => if mj_cmp c a b = true then some (.inl (.inr ((x.getD 0 0), loc, r, h))) else some (.inl (.inr ((x.getD 1 0), loc, r, h)))
      | _ => none
    | .ifnull _ => match st with
      | .null :: r => some (.inl (.inr ((x.getD 0 0), loc, r, h)))
      | .ref _ :: r => some (.inl (.inr ((x.getD 1 0), loc, r, h)))
      | _ => none
    | .ifnonnull _ => match st with
      | .null :: r => some (.inl (.inr ((x.getD 1 0), loc, r, h)))
      | .ref _ :: r => some (.inl (.inr ((x.getD 0 0), loc, r, h)))
      | _ => none
    | .tableswitch _ lo hi _ => match st with
      | .int a :: r => some (.inl (.inr ((x.getD (mj_tsw lo hi a) 0), loc, r, h)))
      | _ => none
    | .lookupswitch _ ps => match st with
      | .int a :: r => some (.inl (.inr ((x.getD (mj_lsw a.toInt ps.toList 1) 0), loc, r, h)))
      | _ => none
    | .ireturn => match mj_ret .ireturn x st with
      | some rv => some (.inr (.inl (rv, h)))
      | none => none
    | .lreturn => match mj_ret .lreturn x st with
      | some rv => some (.inr (.inl (rv, h)))
      | none => none
    | .areturn => match mj_ret .areturn x st with
      | some rv => some (.inr (.inl (rv, h)))
      | none => none
    | .return_ => match mj_ret .return_ x st with
      | some rv => some (.inr (.inl (rv, h)))
      | none => none
    | .iaload => match mj_ald E 0 st h with
      | some st' => some (.inl (.inl (loc, st', h)))
      | none => none
    | .caload => match mj_ald E 1 st h with
      | some st' => some (.inl (.inl (loc, st', h)))
      | none => none
    | .baload => match mj_ald E 2 st h with
      | some st' => some (.inl (.inl (loc, st', h)))
      | none => none
    | .laload => match mj_lald st h with
      | some st' => some (.inl (.inl (loc, st', h)))
      | none => none
    | .aaload => match mj_aald st h with
      | some st' => some (.inl (.inl (loc, st', h)))
      | none => none
    | .iastore => match mj_ast 0 st h with
      | some (st', h') => some (.inl (.inl (loc, st', h')))
      | none => none
    | .castore => match mj_ast 1 st h with
      | some (st', h') => some (.inl (.inl (loc, st', h')))
      | none => none
    | .bastore => match mj_ast 2 st h with
      | some (st', h') => some (.inl (.inl (loc, st', h')))
      | none => none
    | .lastore => match mj_last st h with
      | some (st', h') => some (.inl (.inl (loc, st', h')))
      | none => none
    | .aastore => match mj_aast (x.getD 0 0) st h with
      | some (st', h') => some (.inl (.inl (loc, st', h')))
      | none => none
    | .arraylength => match mj_alen E st h with
      | some st' => some (.inl (.inl (loc, st', h)))
      | none => none
    | .newarray _ => match mj_newa (x.getD 0 0) st h with
      | some (st', h') => some (.inl (.inl (loc, st', h')))
      | none => none
    | .anewarray _ => match mj_newa 4 st h with
      | some (st', h') => some (.inl (.inl (loc, st', h')))
      | none => none
    | .new _ => some (.inl (.inl (loc, (.ref h.length :: st), (h ++ [.inr (x.getD 0 0, df (x.getD 0 0))]))))
    | .getfield _ => match mj_get (x.getD 0 0) (x.getD 1 0) st h with
      | some st' => some (.inl (.inl (loc, st', h)))
      | none => none
    | .putfield _ => match mj_put (x.getD 0 0) (x.getD 1 0) (x.getD 2 0) st h with
      | some (st', h') => some (.inl (.inl (loc, st', h')))
      | none => none
    | .invokevirtual _ => match mj_pop (x.getD 1 0) st [] with
      | some (as, r) => if mj_rcv (x.getD 2 0) as h = true ∧ mj_le4 r = true then some (.inr (.inr (x.getD 0 0, as, r))) else none
      | none => none
    | .invokespecial _ => match mj_pop (x.getD 1 0) st [] with
      | some (as, r) => if mj_rcv (x.getD 2 0) as h = true ∧ mj_le4 r = true then some (.inr (.inr (x.getD 0 0, as, r))) else none
      | none => none
    | .invokestatic _ => match mj_pop (x.getD 1 0) st [] with
      | some (as, r) => if mj_le4 r = true then some (.inr (.inr (x.getD 0 0, as, r))) else none
      | none => none
    | .invokedynamic _ => match mj_pop (x.getD 1 0) st [] with
      | some (as, r) => if mj_le4 r = true then match bi (x.getD 0 0) as h with
          | some (rv, h') => some (.inl (.inl (loc, rv.toList ++ r, h')))
          | none => none
        else none
      | none => none
    | .checkcast _ => match st with
      | .ref k :: r => match h[k]? with
        | some (.inl (0, _)) => some (.inl (.inl (loc, (.ref k :: r), h)))
        | _ => none
      | _ => none
    | .athrow => match st with
      | [.ref _] => some (.inl (.inl (loc, [], h)))
      | _ => none
    | _ => match mj_pu i st with
      | some st' => some (.inl (.inl (loc, st', h)))
      | none => none
def mj_fx (go : Nat → mj_L → List Value → mj_H → mj_R) (call : Nat → List Value → mj_H → mj_R) (nx : mj_L → List Value → mj_H → mj_R) (loc : mj_L) (h : mj_H) (f : mj_F) : mj_R := match f with
  | none => none
  | some (.inl (.inl t)) => nx t.1 t.2.1 t.2.2
  | some (.inl (.inr t)) => go t.1 t.2.1 t.2.2.1 t.2.2.2
  | some (.inr (.inl r)) => some r
  | some (.inr (.inr t)) => match call t.1 t.2.1 h with
    | some (rv, h1) => nx loc (rv.toList ++ t.2.2) h1
    | none => none
theorem mj_ex_cf_cc (E : mj_E) (df : Nat → List Value) (go : Nat → mj_L → List Value → mj_H → mj_R) (call bi : Nat → List Value → mj_H → mj_R) (k : Nat) (x : List Nat) (v : Value) (is : List mj_I) (loc : mj_L) (st : List Value) (h : mj_H) :
    mj_ex E df go call bi ((.checkcast k, x, v) :: is) loc st h = mj_fx go call (mj_ex E df go call bi is) loc h (mj_cf E df bi (.checkcast k) x v loc st h) := by
  cases st with
  | nil => rfl
  | cons a r =>
    cases a <;> try rfl
    rename_i q
    show (match h[q]? with
      | some (.inl (0, _)) => mj_ex E df go call bi is loc (.ref q :: r) h
      | _ => none) = mj_fx go call (mj_ex E df go call bi is) loc h (match h[q]? with
      | some (.inl (0, _)) => some (.inl (.inl (loc, (.ref q :: r), h)))
      | _ => none)
    cases h[q]? with
    | none => rfl
    | some c =>
      cases c with
      | inr c => rfl
      | inl c =>
        obtain ⟨t, a, b⟩ := c
        cases t <;> rfl
set_option maxHeartbeats 4000000 in
theorem mj_ex_cf (E : mj_E) (df : Nat → List Value) (go : Nat → mj_L → List Value → mj_H → mj_R) (call bi : Nat → List Value → mj_H → mj_R) (i : Instr) (x : List Nat) (v : Value) (is : List mj_I) (loc : mj_L) (st : List Value) (h : mj_H) :
    mj_ex E df go call bi ((i, x, v) :: is) loc st h = mj_fx go call (mj_ex E df go call bi is) loc h (mj_cf E df bi i x v loc st h) := by
  cases i <;> first
    | rfl
    | exact mj_ex_cf_cc E df go call bi _ x v is loc st h
    | (simp only [mj_ex, mj_cf]; (repeat' split) <;> first | rfl | contradiction | (simp_all [mj_fx]; done))
theorem mj_ex_mono {E : mj_E} {df : Nat → List Value} {go go' : Nat → mj_L → List Value → mj_H → mj_R} {call call' bi : Nat → List Value → mj_H → mj_R} (hg : ∀ b loc st h r, go b loc st h = some r → go' b loc st h = some r) (hc : ∀ m av h r, call m av h = some r → call' m av h = some r) :
    ∀ (is : List mj_I) (loc : mj_L) (st : List Value) (h : mj_H) (r : Option Value × mj_H), mj_ex E df go call bi is loc st h = some r → mj_ex E df go' call' bi is loc st h = some r
  | [], _, _, _, _, hx => by cases hx
  | (i, x, v) :: is, loc, st, h, r, hx => by
    rw [mj_ex_cf] at hx ⊢
    generalize mj_cf E df bi i x v loc st h = f at hx
    match f, hx with
    | none, hx => cases hx
    | some (.inl (.inl t)), hx => exact mj_ex_mono hg hc is _ _ _ _ hx
    | some (.inl (.inr t)), hx => exact hg _ _ _ _ _ hx
    | some (.inr (.inl q)), hx => exact hx
    | some (.inr (.inr t)), hx =>
      unfold mj_fx at hx ⊢
      dsimp only at hx ⊢
      cases hcall : call t.1 t.2.1 h with
      | none => rw [hcall] at hx; cases hx
      | some q =>
        rw [hcall] at hx
        rw [hc _ _ _ _ hcall]
        exact mj_ex_mono hg hc is _ _ _ _ hx
theorem mj_ex_cont {E : mj_E} {df : Nat → List Value} {go : Nat → mj_L → List Value → mj_H → mj_R} {call bi : Nat → List Value → mj_H → mj_R} {goN : Nat → Nat → mj_L → List Value → mj_H → mj_R} {callN : Nat → Nat → List Value → mj_H → mj_R}
    (mg : ∀ n n', n ≤ n' → ∀ b loc st h r, goN n b loc st h = some r → goN n' b loc st h = some r) (mc : ∀ n n', n ≤ n' → ∀ m av h r, callN n m av h = some r → callN n' m av h = some r)
    (hg : ∀ b loc st h r, go b loc st h = some r → ∃ n, goN n b loc st h = some r) (hc : ∀ m av h r, call m av h = some r → ∃ n, callN n m av h = some r) :
    ∀ (is : List mj_I) (loc : mj_L) (st : List Value) (h : mj_H) (r : Option Value × mj_H), mj_ex E df go call bi is loc st h = some r → ∃ n, mj_ex E df (goN n) (callN n) bi is loc st h = some r
  | [], _, _, _, _, hx => by cases hx
  | (i, x, v) :: is, loc, st, h, r, hx => by
    rw [mj_ex_cf] at hx
    have key : ∃ n, mj_fx (goN n) (callN n) (mj_ex E df (goN n) (callN n) bi is) loc h (mj_cf E df bi i x v loc st h) = some r := by
      generalize mj_cf E df bi i x v loc st h = f at hx
      match f, hx with
      | none, hx => cases hx
      | some (.inl (.inl t)), hx => exact mj_ex_cont mg mc hg hc is _ _ _ _ hx
      | some (.inl (.inr t)), hx => exact hg _ _ _ _ _ hx
      | some (.inr (.inl q)), hx => exact ⟨0, hx⟩
      | some (.inr (.inr t)), hx =>
        unfold mj_fx at hx
        dsimp only at hx
        cases hcall : call t.1 t.2.1 h with
        | none => rw [hcall] at hx; cases hx
        | some q =>
          rw [hcall] at hx
          obtain ⟨n1, h1⟩ := hc _ _ _ _ hcall
          obtain ⟨n2, h2⟩ := mj_ex_cont mg mc hg hc is _ _ _ _ hx
          refine ⟨max n1 n2, ?_⟩
          unfold mj_fx
          dsimp only
          rw [mc n1 (max n1 n2) (Nat.le_max_left _ _) _ _ _ _ h1]
          exact mj_ex_mono (mg n2 (max n1 n2) (Nat.le_max_right _ _)) (mc n2 (max n1 n2) (Nat.le_max_right _ _)) is _ _ _ _ h2
    obtain ⟨n, hn⟩ := key
    exact ⟨n, by rw [mj_ex_cf]; exact hn⟩
def mj_cn_ (E : mj_E) (bi : Nat → List Value → mj_H → mj_R) (n d : Nat) : Nat → List Value → mj_H → mj_R := fun m' as h' => match d with
  | 0 => none
  | d' + 1 => if (mj_args as).length ≤ (mj_meth m').2.2.1 then mj_rn E bi n d' m' 0 (mj_ent (mj_meth m').2.2.1 as) [] h' else none
theorem mj_rn_succ (E : mj_E) (bi : Nat → List Value → mj_H → mj_R) (n d m b : Nat) (loc : mj_L) (st : List Value) (h : mj_H) : mj_rn E bi (n + 1) d m b loc st h = mj_ex E mj_df (mj_rn E bi n d m) (mj_cn_ E bi n d) bi (mj_blk m b) loc st h := rfl
theorem mj_rn_mono1 (E : mj_E) (bi : Nat → List Value → mj_H → mj_R) : ∀ (n d m b : Nat) (loc : mj_L) (st : List Value) (h : mj_H) (r : Option Value × mj_H), mj_rn E bi n d m b loc st h = some r → mj_rn E bi (n + 1) d m b loc st h = some r
  | 0, d, m, b, loc, st, h, r, hx => by cases hx
  | n + 1, d, m, b, loc, st, h, r, hx => by
    rw [mj_rn_succ] at hx ⊢
    refine mj_ex_mono (fun b loc st h r hq => mj_rn_mono1 E bi n d m b loc st h r hq) (fun m av h r hq => ?_) _ _ _ _ _ hx
    unfold mj_cn_ at hq ⊢
    cases d with
    | zero => cases hq
    | succ d =>
      dsimp only at hq ⊢
      split at hq
      · rename_i hl
        rw [if_pos hl]
        exact mj_rn_mono1 E bi n d m 0 _ _ h r hq
      · cases hq
theorem mj_rn_mono (E : mj_E) (bi : Nat → List Value → mj_H → mj_R) {n n' d m b : Nat} {loc : mj_L} {st : List Value} {h : mj_H} {r : Option Value × mj_H} (hn : n ≤ n') (hx : mj_rn E bi n d m b loc st h = some r) : mj_rn E bi n' d m b loc st h = some r := by
  induction hn with
  | refl => exact hx
  | step _ ih => exact mj_rn_mono1 E bi _ _ _ _ _ _ _ _ ih
noncomputable def mj_gi (E : mj_E) (bi : Nat → List Value → mj_H → mj_R) (d m b : Nat) (loc : mj_L) (st : List Value) (h : mj_H) : mj_R :=
  @dite _ (∃ r, ∃ n, mj_rn E bi n d m b loc st h = some r) (Classical.propDecidable _) (fun q => some (Classical.choose q)) (fun _ => none)
theorem mj_gi_iff {E : mj_E} {bi : Nat → List Value → mj_H → mj_R} {d m b : Nat} {loc : mj_L} {st : List Value} {h : mj_H} {r : Option Value × mj_H} : mj_gi E bi d m b loc st h = some r ↔ ∃ n, mj_rn E bi n d m b loc st h = some r := by
  unfold mj_gi
  by_cases q : ∃ r, ∃ n, mj_rn E bi n d m b loc st h = some r
  · rw [dif_pos q]
    obtain ⟨n, hn⟩ := Classical.choose_spec q
    constructor
    · intro e
      exact ⟨n, by rw [hn, ← Option.some.inj e]⟩
    · rintro ⟨n', hn'⟩
      have h1 := mj_rn_mono E bi (Nat.le_max_left n n') hn
      have h2 := mj_rn_mono E bi (Nat.le_max_right n n') hn'
      rw [h1] at h2
      exact h2
  · rw [dif_neg q]
    constructor
    · intro e; cases e
    · rintro ⟨n, hn⟩
      exact absurd ⟨r, n, hn⟩ q
/-- a call of a method, d levels below being left -/
noncomputable def mj_ca (E : mj_E) (bi : Nat → List Value → mj_H → mj_R) (d : Nat) (m' : Nat) (as : List Value) (h' : mj_H) : mj_R := match d with
  | 0 => none
  | d' + 1 => if (mj_args as).length ≤ (mj_meth m').2.2.1 then mj_gi E bi d' m' 0 (mj_ent (mj_meth m').2.2.1 as) [] h' else none
theorem mj_gi_eq (E : mj_E) (bi : Nat → List Value → mj_H → mj_R) (d m b : Nat) (loc : mj_L) (st : List Value) (h : mj_H) : mj_gi E bi d m b loc st h = mj_ex E mj_df (mj_gi E bi d m) (mj_ca E bi d) bi (mj_blk m b) loc st h := by
  have up : ∀ r, mj_gi E bi d m b loc st h = some r → mj_ex E mj_df (mj_gi E bi d m) (mj_ca E bi d) bi (mj_blk m b) loc st h = some r := by
    intro r hr
    obtain ⟨n, hn⟩ := mj_gi_iff.mp hr
    cases n with
    | zero => cases hn
    | succ n =>
      rw [mj_rn_succ] at hn
      refine mj_ex_mono (fun b loc st h r hq => mj_gi_iff.mpr ⟨n, hq⟩) (fun m av h r hq => ?_) _ _ _ _ _ hn
      unfold mj_cn_ at hq
      unfold mj_ca
      cases d with
      | zero => cases hq
      | succ d =>
        dsimp only at hq ⊢
        split at hq
        · rename_i hl
          rw [if_pos hl]
          exact mj_gi_iff.mpr ⟨n, hq⟩
        · cases hq
  have down : ∀ r, mj_ex E mj_df (mj_gi E bi d m) (mj_ca E bi d) bi (mj_blk m b) loc st h = some r → mj_gi E bi d m b loc st h = some r := by
    intro r hr
    obtain ⟨n, hn⟩ := mj_ex_cont (goN := fun n => mj_rn E bi n d m) (callN := fun n => mj_cn_ E bi n d) (fun n n' hl b loc st h r hq => mj_rn_mono E bi hl hq) (fun n n' hl m av h r hq => by
      unfold mj_cn_ at hq ⊢
      cases d with
      | zero => cases hq
      | succ d =>
        dsimp only at hq ⊢
        split at hq
        · rename_i h2
          rw [if_pos h2]
          exact mj_rn_mono E bi hl hq
        · cases hq) (fun b loc st h r hq => mj_gi_iff.mp hq) (fun m av h r hq => by
      unfold mj_ca at hq
      unfold mj_cn_
      cases d with
      | zero => cases hq
      | succ d =>
        dsimp only at hq ⊢
        split at hq
        · rename_i h2
          obtain ⟨n, hn⟩ := mj_gi_iff.mp hq
          exact ⟨n, by rw [if_pos h2]; exact hn⟩
        · cases hq) _ _ _ _ _ hr
    exact mj_gi_iff.mpr ⟨n + 1, hn⟩
  cases hg : mj_gi E bi d m b loc st h with
  | some r => exact (up r hg).symm
  | none =>
    cases he : mj_ex E mj_df (mj_gi E bi d m) (mj_ca E bi d) bi (mj_blk m b) loc st h with
    | none => rfl
    | some r => rw [down r he] at hg; cases hg
