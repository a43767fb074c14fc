/-! reading sums: class and reference, all levels -/
def AV (l n o : Int) (P : List Int) (k : Int) : Prop := rkt P ≤ l ∧ P.length ≤ 6 * o + n ∧ (k = 143 → askA P = 0)
def AB (l n o : Int) (P : List Int) (_ : Int) : Prop := opn P = 41 ∧ askA P = 1 ∧ cmpd P = 0 ∧ rkt P ≤ l ∧ P.length ≤ 6 * o + n
def oca (t : Int) : Int := if t = 43 then 6 else if t = 45 then 7 else if t = 42 then 8 else if t = 47 then 9 else if t = 142 then 21 else 22
def QT (_ : Int) : Prop := True
def QP (k : Int) : Prop := QT k ∧ k ≠ 42 ∧ k ≠ 47
def QS (k : Int) : Prop := QP k ∧ k ≠ 43 ∧ k ≠ 45
def QB (k : Int) : Prop := QT k ∧ k ≠ 142 ∧ k ≠ 142
def QE (k : Int) : Prop := QB k ∧ k ≠ 141 ∧ k ≠ 141
theorem lcons {a : Int} {P : List Int} : (a :: P).length = P.length + 1 := rfl
theorem rkt_c {a : Int} {P : List Int} : rkt (a :: P) = rk a := rfl
theorem AB_c {l n o c : Int} {P : List Int} {k k2 : Int} (h : AB l n o P k) (hc : (c = 20 ∨ c = 21 ∨ c = 22)) : AB (rk c) (n + 1) o (c :: P) k2 := by
  obtain ⟨h1, h2, h3, h4, h5⟩ := h
  have c4 : c < 40 := by omega
  refine ⟨by rw [opn_c c4, h1], ?_, ?_, Int.le_refl _, by rw [lcons]; omega⟩
  · rw [askA_c c4, if_pos h1]
    rcases hc with e | e | e <;> subst e <;> rfl
  · rcases hc with e | e | e <;> subst e <;> rfl
theorem AB_m {l n o l2 n2 o2 : Int} {P : List Int} {k k2 : Int} (h : AB l n o P k) (h1 : l ≤ l2) (h2 : 6 * o + n ≤ 6 * o2 + n2) : AB l2 n2 o2 P k2 := ⟨h.1, h.2.1, h.2.2.1, by have := h.2.2.2.1; omega, by have := h.2.2.2.2; omega⟩
section P5995
variable {K V : Int → Int} {so N : Int} {o ck : Int} {one ask : pT → pT}
theorem sum_rd (hK : HK K V N) (h8 : 0 ≤ o ∧ o ≤ 8) (h : Rds K V so N one SmV QT (AV 7 5 o) (af7 K) o) : Rds K V so N (pSum K one) SmV QS (AV 4 3 o) (rBeh K) o := by
  have rp : ∀ t : Int, (t = 42 ∨ t = 47) → rk (oca t) = 6 ∧ (oca t = 8 ∨ oca t = 9) := fun t ht => by rcases ht with e | e <;> subst e <;> decide
  have rs : ∀ t : Int, (t = 43 ∨ t = 45) → rk (oca t) = 5 ∧ (oca t = 6 ∨ oca t = 7) := fun t ht => by rcases ht with e | e <;> subst e <;> decide
  have p : Rds K V so N (pSeq K 42 47 one) SmV QP (AV 5 4 o) (rBeh K) o := seq_rd (oc := oca) hK (by decide) h
    (fun P k q => ⟨by have := q.1; omega, by have := q.2.1; omega, q.2.2⟩)
    (fun P k k2 t q ht => ⟨by rw [rkt_c, (rp t ht).1]; omega, by rw [lcons]; have := q.2.1; omega, fun _ => by rw [askA_c (by have := rp t ht; omega), if_neg (show ¬ (1 ≤ rk (oca t) ∧ rk (oca t) ≤ 3) by rw [(rp t ht).1]; omega)]; split <;> rfl⟩)
    (fun P k i W q _ => af7_id (by have := q.1; omega))
    (fun P k i t W q _ ht => by
      rw [af7_id (by rw [rkt_c, (rp t ht).1]; omega)]
      exact rBeh_pend (by have := rp t ht; omega))
    (fun P k i W q ht => rBeh_bin (by have := q.2.1; omega) (by
      have r := q.1
      rcases ht with e | e
      · exact Or.inr (Or.inr (Or.inl ⟨e, by rw [e]; rfl, by omega⟩))
      · exact Or.inr (Or.inr (Or.inr ⟨e, by rw [e]; rfl, by omega⟩))))
    (fun C s m e t r1 r2 a b ht hc he => SmV_bin a b he hc (by rcases ht with e | e <;> subst e <;> decide))
    (fun C D s m r a b => SmV_cg a b) (fun C s m r a => a.1)
  exact seq_rd (oc := oca) hK (by decide) p
    (fun P k q => ⟨by have := q.1; omega, by have := q.2.1; omega, q.2.2⟩)
    (fun P k k2 t q ht => ⟨by rw [rkt_c, (rs t ht).1]; omega, by rw [lcons]; have := q.2.1; omega, fun _ => by rw [askA_c (by have := rs t ht; omega), if_neg (show ¬ (1 ≤ rk (oca t) ∧ rk (oca t) ≤ 3) by rw [(rs t ht).1]; omega)]; split <;> rfl⟩)
    (fun P k i W q _ => rfl)
    (fun P k i t W q hq ht => rBeh_pend (Or.inr (Or.inr ⟨(rs t ht).2, hq.2⟩)))
    (fun P k i W q ht => rBeh_bin (by have := q.2.1; omega) (by
      have r := q.1
      rcases ht with e | e
      · exact Or.inl ⟨e, by rw [e]; rfl, by omega⟩
      · exact Or.inr (Or.inl ⟨e, by rw [e]; rfl, by omega⟩)))
    (fun C s m e t r1 r2 a b ht hc he => SmV_bin a b he hc (by rcases ht with e | e <;> subst e <;> decide))
    (fun C D s m r a b => SmV_cg a b) (fun C s m r a => a.1)
theorem either_rd (hK : HK K V N) (h8 : 0 ≤ o ∧ o ≤ 8) (h : Rds K V so N ask SmB QT (AB 3 2 o) (rAsk K) o) : Rds K V so N (pEither K ask) SmB QE (AB 0 0 o) (rAsk K) o := by
  have p : Rds K V so N (pSeq K 142 142 ask) SmB QB (AB 1 1 o) (rAsk K) o := seq_rd (oc := oca) hK (by decide) h
    (fun P k q => AB_m q (by omega) (by omega))
    (fun P k k2 t q ht => by
      have e : t = 142 := by omega
      subst e
      exact AB_m (AB_c (c := 21) (k2 := 0) q (by decide)) (by decide) (by omega))
    (fun P k i W q _ => rfl)
    (fun P k i t W q _ ht => by
      have e : t = 142 := by omega
      subst e
      exact rAsk_p (c := 21) (Or.inr (Or.inl ⟨rfl, rfl⟩)))
    (fun P k i W q ht => by
      have e : K i = 142 := by omega
      have r := q.2.2.2.1
      have l := q.2.2.2.2
      unfold rAsk
      rw [if_pos e, stl_id (by omega), e]
      unfold rBw
      rw [if_neg (by show ¬ 150 ≤ P.length; omega)]
      rfl)
    (fun C s m e t r1 r2 a b ht hc he => SmB_join a b he hc (by rcases ht with e | e <;> subst e <;> decide))
    (fun C D s m r a b => SmB_cg a b) (fun C s m r a => a.1)
  exact seq_rd (oc := oca) hK (by decide) p
    (fun P k q => AB_m q (by omega) (by omega))
    (fun P k k2 t q ht => by
      have e : t = 141 := by omega
      subst e
      exact AB_m (AB_c (c := 22) (k2 := 0) q (by decide)) (by decide) (by omega))
    (fun P k i W q _ => rfl)
    (fun P k i t W q hq ht => by
      have e : t = 141 := by omega
      subst e
      exact rAsk_p (c := 22) (Or.inr (Or.inr ⟨rfl, rfl, hq.2.1⟩)))
    (fun P k i W q ht => by
      have e : K i = 141 := by omega
      have r := q.2.2.2.1
      have l := q.2.2.2.2
      unfold rAsk
      rw [if_neg (by omega), if_pos e, stl_id (by omega), e]
      unfold rBw
      rw [if_neg (by show ¬ 150 ≤ P.length; omega)]
      rfl)
    (fun C s m e t r1 r2 a b ht hc he => SmB_join a b he hc (by rcases ht with e | e <;> subst e <;> decide))
    (fun C D s m r a b => SmB_cg a b) (fun C s m r a => a.1)
theorem cmpI_1 {k : Int} (h : cmpI k = 1) : (k = 60 ∧ cmk k = 10) ∨ (k = 3 ∧ cmk k = 11) ∨ (k = 62 ∧ cmk k = 12) ∨ (k = 4 ∧ cmk k = 13) ∨ (k = 61 ∧ cmk k = 14) ∨ (k = 35 ∧ cmk k = 15) := by
  have hk : k = 60 ∨ k = 3 ∨ k = 62 ∨ k = 4 ∨ k = 61 ∨ k = 35 := by
    unfold cmpI at h
    (repeat' split at h) <;> omega
  rcases hk with e | e | e | e | e | e <;> subst e <;> decide
theorem cmpI_0 {k : Int} (h : ¬ cmpI k = 1) : cmk k = -1 := by
  unfold cmpI at h
  unfold cmk
  (repeat' split at h) <;> first | (exact absurd rfl h) | (rw [if_neg (by assumption), if_neg (by assumption), if_neg (by assumption), if_neg (by assumption), if_neg (by assumption), if_neg (by assumption)])
/-- the reference at a comparison, before and behind -/
theorem rBeh_cmp {P : List Int} {i k : Int} {W : wT} (hA : AB 3 2 o P k) (h8 : o ≤ 8) (hk : QS (K i)) : rBeh K P o i W = if cmpI (K i) = 1 then .inl (cmk (K i) :: P, o, 0, i + 1, W) else .inr (1, i, []) := by
  obtain ⟨a1, a2, a3, a4, a5⟩ := hA
  have bt : btw (K i) P = cmk (K i) := by rw [btw_no ⟨hk.1.2.1, hk.2.1, hk.2.2, hk.1.2.2⟩, if_pos a1, if_pos a3]
  unfold rBeh
  rw [bt]
  by_cases y : cmpI (K i) = 1
  · have q := cmpI_1 y
    have r4 : rk (cmk (K i)) = 4 := by rcases q with ⟨_, e⟩ | ⟨_, e⟩ | ⟨_, e⟩ | ⟨_, e⟩ | ⟨_, e⟩ | ⟨_, e⟩ <;> rw [e] <;> rfl
    rw [if_pos y, if_pos (show 0 ≤ cmk (K i) by omega), r4, if_pos rfl, stl_id (by omega)]
    unfold rBw
    rw [if_neg (by show ¬ 150 ≤ P.length; omega)]
  · rw [if_neg y, cmpI_0 y, if_neg (show ¬ (0 : Int) ≤ -1 by omega), a1]
    have p : prt (K i) 41 P = -1 := by
      unfold prt
      rw [if_neg (by decide), if_pos rfl, a3, if_neg (show ¬ (0 : Int) = 1 by decide)]
      split <;> rfl
    rw [p, if_pos (show (-1 : Int) < 0 by omega), if_pos (show (0 : Int) ≤ 41 by omega)]
theorem comp_n (h : ∀ st : pT, st.1 ≠ 0 → pSum K one st = st) (st : pT) (h0 : st.1 ≠ 0) : pComp K one st = st := by
  unfold pComp
  rw [h st h0, if_neg (fun q => h0 q.1), pFail_n h0]
theorem comp_out (hK : HK K V N) (h8 : 0 ≤ o ∧ o ≤ 8) (h : Rds K V so N (pSum K one) SmV QS (AV 4 3 o) (rBeh K) o) {P : List Int} {W : wT} {st : pT} (hA : AB 3 2 o P (K st.2.1)) (h3 : K st.2.1 ≠ 143) (h0 : st.1 = 0) (hW : Wst N st) (hs : st.2.2.1 ≤ st.2.1) : Out K V so SmB QT (rAsk K) P o W st (pComp K one st) := by
  have q := h.2.2 P W st ⟨by have := hA.2.2.2.1; omega, by have := hA.2.2.2.2; omega, fun e => absurd e h3⟩ h0 hW hs
  have w1 := h.2.1 st hW
  unfold pComp
  generalize pSum K one st = s1 at q w1 ⊢
  rcases q with ⟨z, q1, q2, q3, q4, rc, q5, q6, q7⟩ | ⟨z, q1⟩
  · have q7' := fun r => q7 r
    simp only [rBeh_cmp hA h8.2 q4] at q7'
    by_cases y : cmpI (K s1.2.1) = 1
    · rw [if_pos ⟨z, y⟩]
      rw [if_pos y] at q7'
      have c1 := cmpI_1 y
      have kn : K s1.2.1 ≠ 0 := by omega
      have iN := (hK.2 s1.2.1 ⟨w1.2.2.1, w1.2.2.2.1⟩).2.2.2.2 kn
      have N3 := hK.1
      have l1 := q6.1
      have wa : Wst N (pAdv s1) := W_adv hK w1 kn
      have r4 : rk (cmk (K s1.2.1)) = 4 := by rcases c1 with ⟨_, e⟩ | ⟨_, e⟩ | ⟨_, e⟩ | ⟨_, e⟩ | ⟨_, e⟩ | ⟨_, e⟩ <;> rw [e] <;> rfl
      have t := h.2.2 (cmk (K s1.2.1) :: P) (W ++ rc) (pAdv s1) ⟨by rw [rkt_c, r4]; omega, by rw [lcons]; have := hA.2.2.2.2; omega, fun _ => by rw [askA_c (by omega), r4]; split <;> rfl⟩ z wa (by show s1.2.2.1 ≤ s1.2.1 + 1; omega)
      have w2 := h.2.1 _ wa
      generalize pSum K one (pAdv s1) = s2 at t w2 ⊢
      rcases t with ⟨z2, t1, t2, t3, t4, rc2, t5, t6, t7⟩ | ⟨z2, t1⟩
      · have t1' : s1.2.1 + 1 < s2.2.1 := t1
        have t2' : s2.2.2.1 - s1.2.2.1 ≤ s2.2.1 - (s1.2.1 + 1) := t2
        have t5' : (rc2.length : Int) ≤ s2.2.1 - (s1.2.1 + 1) := t5
        have t3' : ∀ j : Int, j < s1.2.2.1 → s2.2.2.2 j = s1.2.2.2 j := t3
        have t6' : SmV s2.2.2.2 s1.2.2.1 s2.2.2.1 rc2 := t6
        have w3 := w2.2.2.2.1
        have l2 := t6'.1
        rw [pEmit_y ⟨z2, by omega⟩]
        refine Or.inl ⟨z2, by show st.2.1 < s2.2.1; omega, by show s2.2.2.1 + 1 - st.2.2.1 ≤ s2.2.1 - st.2.1; omega, fun j hj => ?_, trivial, rc ++ rc2 ++ [(cmk (K s1.2.1), 0)], ?_, ?_, fun r hr => ?_⟩
        · show up s2.2.2.2 s2.2.2.1 (K s1.2.1 + 256 * 0) j = st.2.2.2 j
          rw [up_n (by omega), t3' j (by omega), q3 j hj]
        · rw [lapp3]
          show ((rc.length + rc2.length + 1 : Nat) : Int) ≤ s2.2.1 - st.2.1
          omega
        · refine SmB_cmp (SmV_cg q6 (fun j hj => ?_)) (SmV_cg t6' (fun j hj => ?_)) (by omega) (up_e rfl) (by omega)
          · dsimp only; rw [up_n (by omega), t3' j (by omega)]
          · dsimp only; rw [up_n (by omega)]
        · refine q7' r (t7 r ?_)
          rw [rAsk_c ⟨t4.1.2.1, t4.2.1, t4.2.2, t4.1.2.2⟩ (by omega) hA.1, List.append_assoc, List.append_assoc]
          rw [List.append_assoc] at hr
          exact hr
      · rw [pEmit_n z2]
        exact Or.inr ⟨z2, q7' _ t1⟩
    · rw [if_neg (fun q => y q.2)]
      rw [if_neg y] at q7'
      unfold pFail
      rw [if_pos z]
      exact Or.inr ⟨by show (1 : Int) ≠ 0; omega, q7' _ rfl⟩
  · rw [if_neg (fun q => z q.1), pFail_n z]
    exact Or.inr ⟨z, q1⟩
theorem nmk_o {k : Int} (h : k ≠ 2 ∧ ¬ (144 ≤ k ∧ k < 152)) : nmk k = -1 := by
  unfold nmk
  rw [if_neg (by omega), if_neg (by omega), if_neg (by omega), if_neg (by omega), if_neg (by omega), if_neg (by omega), if_neg (by omega), if_neg (by omega)]
theorem opc_o {k : Int} (h : ¬ (k = 40 ∨ k = 45 ∨ k = 135 ∨ k = 136 ∨ k = 137)) : opc k = -1 := by
  unfold opc
  rw [if_neg (by omega), if_neg (by omega), if_neg (by omega), if_neg (by omega), if_neg (by omega)]
theorem rBeg_op {P : List Int} {i : Int} {W : wT} (h : K i = 40 ∨ K i = 45 ∨ K i = 135 ∨ K i = 136 ∨ K i = 137) : rBeg K V so P o i W = rOp (opc (K i)) P o i W := by
  unfold rBeg
  rw [if_neg (by omega), nmk_o ⟨by omega, by omega⟩, if_neg (show ¬ (0 : Int) ≤ -1 by omega), if_pos]
  rcases h with e | e | e | e | e <;> rw [e] <;> decide
theorem rBeg_not {P : List Int} {i : Int} {W : wT} (h : K i = 143) (ha : askA P = 1) : rBeg K V so P o i W = rOp 20 P o i W := by
  unfold rBeg
  rw [if_neg (by omega), nmk_o ⟨by omega, by omega⟩, if_neg (show ¬ (0 : Int) ≤ -1 by omega), opc_o (by omega), if_neg (show ¬ (0 : Int) ≤ -1 by omega), if_pos ⟨h, ha⟩]
theorem rOp_y {P : List Int} {i a : Int} {W : wT} (h : o ≠ 8) (hp : P.length < 150) : rOp a P o i W = .inl (a :: P, o + 1, 0, i + 1, W) := by
  unfold rOp
  rw [if_neg h, if_neg (by omega)]
theorem rOp_8 {P : List Int} {i a : Int} {W : wT} : rOp a P 8 i W = .inr (3, i, []) := if_pos rfl
theorem ask0_rd (hK : HK K V N) (h : Rds K V so N (pSum K one) SmV QS (AV 4 3 8) (rBeh K) 8) (hWa : ∀ st : pT, Wst N st → Wst N (pAskB K one (fun st => pFail 3 st) st)) : Rds K V so N (pAskB K one (fun st => pFail 3 st)) SmB QT (AB 3 2 8) (rAsk K) 8 := by
  refine ⟨fun st h0 => ?_, hWa, fun P W st hA h0 hW hs => ?_⟩
  · unfold pAskB
    rw [if_neg (fun q => h0 q.1)]
    exact comp_n h.1 st h0
  · unfold pAskB
    by_cases y : K st.2.1 = 143
    · rw [if_pos ⟨h0, y⟩]
      show Out K V so SmB QT (rAsk K) P 8 W st (pFail 3 st)
      unfold pFail
      rw [if_pos h0]
      exact Or.inr ⟨by show (3 : Int) ≠ 0; omega, Gto_0 (by rw [rBeg_not y hA.2.1, rOp_8]; rfl)⟩
    · rw [if_neg (fun q => y q.2)]
      exact comp_out hK (by omega) h hA y h0 hW hs
theorem askS_rd (hK : HK K V N) (h8 : 0 ≤ o ∧ o < 8) (h : Rds K V so N (pSum K one) SmV QS (AV 4 3 o) (rBeh K) o) (ha : Rds K V so N ask SmB QT (AB 3 2 (o + 1)) (rAsk K) (o + 1)) (hWa : ∀ st : pT, Wst N st → Wst N (pAskB K one (fun st => pEmit 143 0 (ask (pAdv st))) st)) : Rds K V so N (pAskB K one (fun st => pEmit 143 0 (ask (pAdv st)))) SmB QT (AB 3 2 o) (rAsk K) o := by
  refine ⟨fun st h0 => ?_, hWa, fun P W st hA h0 hW hs => ?_⟩
  · unfold pAskB
    rw [if_neg (fun q => h0 q.1)]
    exact comp_n h.1 st h0
  · unfold pAskB
    by_cases y : K st.2.1 = 143
    · rw [if_pos ⟨h0, y⟩]
      show Out K V so SmB QT (rAsk K) P o W st (pEmit 143 0 (ask (pAdv st)))
      have kn : K st.2.1 ≠ 0 := by omega
      have N3 := hK.1
      have wa : Wst N (pAdv st) := W_adv hK hW kn
      have t := ha.2.2 (20 :: P) W (pAdv st) (AB_m (AB_c (c := 20) (k2 := 0) hA (by decide)) (by decide) (by omega)) h0 wa (by show st.2.2.1 ≤ st.2.1 + 1; omega)
      have w2 := ha.2.1 _ wa
      have go : ∀ r : rR, Gto K V so (20 :: P, o + 1, 0, st.2.1 + 1, W) r → Gto K V so (P, o, 0, st.2.1, W) r := fun r hr => Gto_0 (by
        rw [rBeg_not y hA.2.1, rOp_y (by omega) (by have := hA.2.2.2.2; omega)]
        exact hr)
      generalize ask (pAdv st) = s2 at t w2 ⊢
      rcases t with ⟨z2, t1, t2, t3, t4, rc2, t5, t6, t7⟩ | ⟨z2, t1⟩
      · have t1' : st.2.1 + 1 < s2.2.1 := t1
        have t2' : s2.2.2.1 - st.2.2.1 ≤ s2.2.1 - (st.2.1 + 1) := t2
        have t5' : (rc2.length : Int) ≤ s2.2.1 - (st.2.1 + 1) := t5
        have t3' : ∀ j : Int, j < st.2.2.1 → s2.2.2.2 j = st.2.2.2 j := t3
        have t6' : SmB s2.2.2.2 st.2.2.1 s2.2.2.1 rc2 := t6
        have w3 := w2.2.2.2.1
        have l2 := t6'.1
        rw [pEmit_y ⟨z2, by omega⟩]
        refine Or.inl ⟨z2, by show st.2.1 < s2.2.1; omega, by show s2.2.2.1 + 1 - st.2.2.1 ≤ s2.2.1 - st.2.1; omega, fun j hj => ?_, trivial, rc2 ++ [(20, 0)], ?_, ?_, fun r hr => ?_⟩
        · show up s2.2.2.2 s2.2.2.1 (143 + 256 * 0) j = st.2.2.2 j
          rw [up_n (by omega), t3' j (by omega)]
        · rw [lapp]
          show ((rc2.length + 1 : Nat) : Int) ≤ s2.2.1 - st.2.1
          omega
        · refine SmB_not (SmB_cg t6' (fun j hj => ?_)) (by omega) (up_e rfl)
          dsimp only
          rw [up_n (by omega)]
        · refine go r (t7 r ?_)
          rw [rAsk_p (o2 := o) (Or.inl ⟨rfl, rfl⟩), List.append_assoc]
          exact hr
      · rw [pEmit_n z2]
        exact Or.inr ⟨z2, go _ t1⟩
    · rw [if_neg (fun q => y q.2)]
      exact comp_out hK (by omega) h hA y h0 hW hs
end P5995
