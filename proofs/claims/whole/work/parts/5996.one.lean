/-! reading sums: class and reference, one and choices -/
theorem rBeh_o {K : Int → Int} {P : List Int} {o i q p : Int} {W : wT} (hk : QS (K i)) (hq : 40 ≤ q ∧ q ≠ 41) (hp : prt (K i) q (q :: P) = p) : rBeh K (q :: P) o i W = if p < 0 then .inr (1, i, []) else rPt p q (q :: P, o, W) i := by
  have o1 : opn (q :: P) = q := by
    show (if 40 ≤ q then q else opn P) = q
    rw [if_pos hq.1]
  have bt : btw (K i) (q :: P) = -1 := by rw [btw_no ⟨hk.1.2.1, hk.2.1, hk.2.2, hk.1.2.2⟩, o1, if_neg hq.2]
  have r0 : rk q = 0 := by unfold rk; rw [if_pos hq.1]
  unfold rBeh
  rw [bt, if_neg (show ¬ (0 : Int) ≤ -1 by omega), o1, hp, stl_id (show rkt (q :: P) < 1 by rw [rkt_c, r0]; omega)]
  by_cases y : p < 0
  · rw [if_pos y, if_pos y, if_pos (show 0 ≤ q by omega)]
  · rw [if_neg y, if_neg y]
theorem rBeh_40 {K : Int → Int} {P : List Int} {o i : Int} {W : wT} (hk : QS (K i)) : rBeh K (40 :: P) (o + 1) i W = if K i = 41 then .inl ((stl 7 P o W).1, (stl 7 P o W).2.1, 1, i + 1, (stl 7 P o W).2.2) else .inr (1, i, []) := by
  by_cases y : K i = 41
  · rw [rBeh_o (p := 0) hk (by decide) (by rw [y]; rfl), if_pos y, if_neg (by decide)]
    unfold rPt
    dsimp only
    rw [if_neg (by decide), if_neg (by decide), show o + 1 - 1 = o by omega]
  · rw [rBeh_o (p := -1) hk (by decide) (by unfold prt; rw [if_pos rfl, if_neg y]), if_neg y, if_pos (by decide)]
theorem rBeh_42 {K : Int → Int} {P : List Int} {o i : Int} {W : wT} (hk : QS (K i)) : rBeh K (42 :: P) o i W = if K i = 139 then .inl (43 :: P, o, 0, i + 1, W) else .inr (1, i, []) := by
  by_cases y : K i = 139
  · rw [rBeh_o (p := 43) hk (by decide) (by rw [y]; rfl), if_pos y, if_neg (by decide)]
    unfold rPt
    dsimp only
    rw [if_pos (by decide)]
  · rw [rBeh_o (p := -1) hk (by decide) (by unfold prt; rw [if_neg (by decide), if_neg (by decide), if_pos rfl, if_neg y]), if_neg y, if_pos (by decide)]
theorem rBeh_43 {K : Int → Int} {P : List Int} {o i : Int} {W : wT} (hk : QS (K i)) : rBeh K (43 :: P) (o + 1) i W = if K i = 140 then .inl ((stl 7 P o (W ++ [(3, 0)])).1, (stl 7 P o (W ++ [(3, 0)])).2.1, 1, i + 1, (stl 7 P o (W ++ [(3, 0)])).2.2) else .inr (1, i, []) := by
  by_cases y : K i = 140
  · rw [rBeh_o (p := 0) hk (by decide) (by rw [y]; rfl), if_pos y, if_neg (by decide)]
    unfold rPt
    dsimp only
    rw [if_neg (by decide), if_pos rfl, show o + 1 - 1 = o by omega]
  · rw [rBeh_o (p := -1) hk (by decide) (by unfold prt; rw [if_neg (by decide), if_neg (by decide), if_neg (by decide), if_pos rfl, if_neg y]), if_neg y, if_pos (by decide)]
theorem rAsk_41 {K : Int → Int} {P : List Int} {o i : Int} {W : wT} (hk : QE (K i)) : rAsk K (41 :: P) o i W = if K i = 138 then .inl (42 :: P, o, 0, i + 1, W) else .inr (1, i, []) := by
  unfold rAsk
  rw [if_neg hk.1.2.1, if_neg hk.2.1, stl_id (show rk 41 < 1 by decide)]
  by_cases y : K i = 138
  · rw [if_pos y, if_pos y]
    unfold rPt
    dsimp only
    rw [if_pos (by decide)]
  · rw [if_neg y, if_neg y]
section P5996
variable {K V : Int → Int} {so N : Int} {o ck : Int} {one ask : pT → pT}
/-- a part of a choice: what stands before the word, and the word -/
def OutC (K V : Int → Int) (so : Int) (Sm : (Int → Int) → Int → Int → wT → Prop) (g p p2 : Int) (P : List Int) (o : Int) (W : wT) (st st2 : pT) : Prop := (st2.1 = 0 ∧ st.2.1 + 1 < st2.2.1 ∧ st2.2.2.1 - st.2.2.1 ≤ st2.2.1 - st.2.1 ∧ (∀ j : Int, j < st.2.2.1 → st2.2.2.2 j = st.2.2.2 j) ∧ st2.2.2.2 (st2.2.2.1 - 1) = g ∧ ∃ rc : wT, (rc.length : Int) + 1 ≤ st2.2.1 - st.2.1 ∧ Sm st2.2.2.2 st.2.2.1 (st2.2.2.1 - 1) rc ∧ ∀ r : rR, Gto K V so (p2 :: P, o, 0, st2.2.1, W ++ rc) r → Gto K V so (p :: P, o, 0, st.2.1, W) r) ∨ (st2.1 ≠ 0 ∧ Gto K V so (p :: P, o, 0, st.2.1, W) (st2.1, st2.2.1, []))
theorem ch_out {Sm : (Int → Int) → Int → Int → wT → Prop} {Q : Int → Prop} {af : List Int → Int → Int → wT → rC ⊕ rR} {t g p p2 : Int} {P : List Int} {W : wT} {st s1 : pT} (hK : HK K V N) (ht : t ≠ 0) (hO : Out K V so Sm Q af (p :: P) o W st s1) (hw : Wst N s1) (hs : st.2.2.1 ≤ st.2.1) (f : ∀ (i : Int) (W : wT), Q (K i) → af (p :: P) o i W = if K i = t then .inl (p2 :: P, o, 0, i + 1, W) else .inr (1, i, []))
    (hG : ∀ (C D : Int → Int) (s m : Int) (r : wT), Sm C s m r → (∀ j : Int, s ≤ j ∧ j < m → D j = C j) → Sm D s m r) (hL : ∀ (C : Int → Int) (s m : Int) (r : wT), Sm C s m r → s < m) : OutC K V so Sm g p p2 P o W st (pEmit g 0 (pExp K t s1)) := by
  rcases hO with ⟨z, q1, q2, q3, q4, rc, q5, q6, q7⟩ | ⟨z, q1⟩
  · have q7' := fun r => q7 r
    simp only [f _ _ q4] at q7'
    have l := hL _ _ _ _ q6
    by_cases y : K s1.2.1 = t
    · have iN := (hK.2 s1.2.1 ⟨hw.2.2.1, hw.2.2.2.1⟩).2.2.2.2 (by rw [y]; exact ht)
      have N3 := hK.1
      rw [if_pos y] at q7'
      have e1 : pExp K t s1 = pAdv s1 := if_pos ⟨z, y⟩
      rw [e1, pEmit_y (st := pAdv s1) ⟨z, by show s1.2.2.1 < 300; omega⟩]
      refine Or.inl ⟨z, by show st.2.1 + 1 < s1.2.1 + 1; omega, by show s1.2.2.1 + 1 - st.2.2.1 ≤ s1.2.1 + 1 - st.2.1; omega, fun j hj => ?_, ?_, rc, by show (rc.length : Int) + 1 ≤ s1.2.1 + 1 - st.2.1; omega, ?_, fun r h => q7' r h⟩
      · show up s1.2.2.2 s1.2.2.1 (g + 256 * 0) j = st.2.2.2 j
        rw [up_n (by omega), q3 j hj]
      · show up s1.2.2.2 s1.2.2.1 (g + 256 * 0) (s1.2.2.1 + 1 - 1) = g
        rw [up_e (by omega)]
        omega
      · show Sm (up s1.2.2.2 s1.2.2.1 (g + 256 * 0)) st.2.2.1 (s1.2.2.1 + 1 - 1) rc
        rw [show s1.2.2.1 + 1 - 1 = s1.2.2.1 by omega]
        exact hG _ _ _ _ _ q6 (fun j hj => by rw [up_n (by omega)])
    · rw [if_neg y] at q7'
      have e1 : pExp K t s1 = (1, s1.2) := by
        unfold pExp
        rw [if_neg (fun q => y q.2)]
        unfold pFail
        rw [if_pos z]
      rw [e1, pEmit_n (show (1 : Int) ≠ 0 by omega)]
      exact Or.inr ⟨by show (1 : Int) ≠ 0; omega, q7' _ rfl⟩
  · rw [pExp_n z, pEmit_n z]
    exact Or.inr ⟨z, q1⟩
/-- what is read behind the opening of something -/
def OutS (K V : Int → Int) (so : Int) (P S : List Int) (o o2 : Int) (W : wT) (st st2 : pT) : Prop := (st2.1 = 0 ∧ st.2.1 < st2.2.1 ∧ st2.2.2.1 - st.2.2.1 ≤ st2.2.1 - st.2.1 + 1 ∧ (∀ j : Int, j < st.2.2.1 → st2.2.2.2 j = st.2.2.2 j) ∧ ∃ rc : wT, (rc.length : Int) ≤ st2.2.1 - st.2.1 + 1 ∧ SmV st2.2.2.2 st.2.2.1 st2.2.2.1 rc ∧ ∀ r : rR, GoX K V so (af7 K P o st2.2.1 (W ++ rc)) r → Gto K V so (S, o2, 0, st.2.1, W) r) ∨ (st2.1 ≠ 0 ∧ Gto K V so (S, o2, 0, st.2.1, W) (st2.1, st2.2.1, []))
theorem choice_out (hK : HK K V N) (h8 : 0 ≤ o ∧ o < 8) (hS : Rds K V so N (pSum K one) SmV QS (AV 4 3 (o + 1)) (rBeh K) (o + 1)) (hE : Rds K V so N (pEither K ask) SmB QE (AB 0 0 (o + 1)) (rAsk K) (o + 1)) {P : List Int} {W : wT} {st : pT} (hp : P.length ≤ 6 * o + 5) (h0 : st.1 = 0) (hW : Wst N st) (hs : st.2.2.1 ≤ st.2.1) : OutS K V so P (41 :: P) o (o + 1) W st (pChoice K one ask st) := by
  have N3 := hK.1
  have lp : ∀ q : Int, (q :: P).length = P.length + 1 := fun _ => rfl
  have s0 := hW.2.2.2.2.1
  have wE := hE.2.1 st hW
  have q1 := hE.2.2 (41 :: P) W st ⟨rfl, rfl, rfl, Int.le_refl 0, by rw [lp]; omega⟩ h0 hW hs
  have w1 := W_emit (g := 6) (m := 0) (W_exp hK (k := 138) wE (by omega))
  have c1 := ch_out (g := 6) (p2 := 42) (t := 138) hK (by omega) q1 wE hs (fun i W hq => rAsk_41 hq) (fun C D s m r a b => SmB_cg a b) (fun C s m r a => a.1)
  unfold pChoice
  have e1 : pCh1 K ask st = pEmit 6 0 (pExp K 138 (pEither K ask st)) := rfl
  rw [← e1] at c1 w1
  clear e1 q1 wE
  generalize pCh1 K ask st = s1 at *
  have e2 : pCh2 K one s1 = pEmit 7 0 (pExp K 139 (pSum K one s1)) := rfl
  rcases c1 with ⟨z1, a1, a2, a3, a4, rc0, a5, a6, a7⟩ | ⟨z1, a1⟩
  · have l1 := a6.1
    have q2 := hS.2.2 (42 :: P) (W ++ rc0) s1 ⟨show rk 42 ≤ 4 by decide, by rw [lp]; omega, fun _ => rfl⟩ z1 w1 (by omega)
    have wS := hS.2.1 s1 w1
    have w2 := W_emit (g := 7) (m := 0) (W_exp hK (k := 139) wS (by omega))
    have c2 := ch_out (g := 7) (p2 := 43) (t := 139) hK (by omega) q2 wS (by omega) (fun i W hq => rBeh_42 hq) (fun C D s m r a b => SmV_cg a b) (fun C s m r a => a.1)
    rw [← e2] at c2 w2
    clear e2 q2 wS
    generalize pCh2 K one s1 = s2 at *
    rcases c2 with ⟨z2, b1, b2, b3, b4, rc1, b5, b6, b7⟩ | ⟨z2, b1⟩
    · have l2 := b6.1
      have w3 : Wst N (pLead (s1.2.2.1 - 1) s2) := W_lead w2
      have e3 : pLead (s1.2.2.1 - 1) s2 = (s2.1, s2.2.1, s2.2.2.1, up s2.2.2.2 (s1.2.2.1 - 1) (s2.2.2.2 (s1.2.2.1 - 1) + 256 * s2.2.2.1)) := if_pos ⟨z2, by omega, by omega⟩
      have i3 : (pLead (s1.2.2.1 - 1) s2).2.1 = s2.2.1 := by rw [e3]
      have q3 := hS.2.2 (43 :: P) (W ++ rc0 ++ rc1) (pLead (s1.2.2.1 - 1) s2) ⟨show rk 43 ≤ 4 by decide, by rw [lp]; omega, fun _ => rfl⟩ (by rw [e3]; exact z2) w3 (by rw [e3]; show s2.2.2.1 ≤ s2.2.1; omega)
      have w4 := hS.2.1 _ w3
      generalize e4 : pSum K one (pLead (s1.2.2.1 - 1) s2) = s4 at w4 q3 ⊢
      have C3 : ∀ j : Int, j ≠ s1.2.2.1 - 1 → (pLead (s1.2.2.1 - 1) s2).2.2.2 j = s2.2.2.2 j := fun j hj => by rw [e3]; exact up_n hj
      have C3' : (pLead (s1.2.2.1 - 1) s2).2.2.2 (s1.2.2.1 - 1) = 6 + 256 * s2.2.2.1 := by
        rw [e3]
        show up s2.2.2.2 (s1.2.2.1 - 1) (s2.2.2.2 (s1.2.2.1 - 1) + 256 * s2.2.2.1) (s1.2.2.1 - 1) = _
        rw [up_e rfl, b3 _ (by omega), a4]
      have S3 : (pLead (s1.2.2.1 - 1) s2).2.2.1 = s2.2.2.1 := by rw [e3]
      clear e4
      generalize pLead (s1.2.2.1 - 1) s2 = s3 at *
      rcases q3 with ⟨z4, d1, d2, d3, d4, rc2, d5, d6, d7⟩ | ⟨z4, d1⟩
      · rw [S3] at d2 d3 d6
        rw [i3] at d1 d2 d5 d7
        have l4 := d6.1
        have d7' := fun r => d7 r
        simp only [rBeh_43 d4] at d7'
        by_cases y : K s4.2.1 = 140
        · have iN := (hK.2 s4.2.1 ⟨w4.2.2.1, w4.2.2.2.1⟩).2.2.2.2 (by omega)
          rw [if_pos y] at d7'
          have e5 : pExp K 140 s4 = pAdv s4 := if_pos ⟨z4, y⟩
          have e6 : pLead (s2.2.2.1 - 1) (pAdv s4) = (s4.1, s4.2.1 + 1, s4.2.2.1, up s4.2.2.2 (s2.2.2.1 - 1) (s4.2.2.2 (s2.2.2.1 - 1) + 256 * s4.2.2.1)) := if_pos ⟨z4, by omega, by show s2.2.2.1 - 1 < s4.2.2.1; omega⟩
          have h7 : s4.2.2.2 (s2.2.2.1 - 1) = 7 := by rw [d3 _ (by omega), C3 _ (by omega), b4]
          rw [e5, e6, h7]
          have D1 : ∀ j : Int, j < s2.2.2.1 - 1 → j ≠ s1.2.2.1 - 1 → up s4.2.2.2 (s2.2.2.1 - 1) (7 + 256 * s4.2.2.1) j = s2.2.2.2 j := fun j h1 h2 => by rw [up_n (by omega), d3 j (by omega), C3 j h2]
          refine Or.inl ⟨z4, by show st.2.1 < s4.2.1 + 1; omega, by show s4.2.2.1 - st.2.2.1 ≤ s4.2.1 + 1 - st.2.1 + 1; omega, fun j hj => ?_, rc0 ++ rc1 ++ rc2 ++ [(3, 0)], ?_, ?_, fun r h => ?_⟩
          · show up s4.2.2.2 (s2.2.2.1 - 1) (7 + 256 * s4.2.2.1) j = st.2.2.2 j
            rw [D1 j (by omega) (by omega), b3 j (by omega), a3 j hj]
          · have hl : (rc0 ++ rc1 ++ rc2 ++ [((3 : Int), (0 : Int))]).length = rc0.length + rc1.length + rc2.length + 1 := by simp [Nat.add_assoc]
            rw [hl]
            show ((rc0.length + rc1.length + rc2.length + 1 : Nat) : Int) ≤ s4.2.1 + 1 - st.2.1 + 1
            omega
          · show SmV (up s4.2.2.2 (s2.2.2.1 - 1) (7 + 256 * s4.2.2.1)) st.2.2.1 s4.2.2.1 _
            refine SmV_sel (m1 := s1.2.2.1 - 1) (m2 := s2.2.2.1 - 1) (SmB_cg a6 (fun j hj => ?_)) ?_ ?_ ?_ (up_e rfl)
            · rw [D1 j (by omega) (by omega), b3 j (by omega)]
            · rw [show s1.2.2.1 - 1 + 1 = s1.2.2.1 by omega]
              exact SmV_cg b6 (fun j hj => D1 j (by omega) (by omega))
            · rw [show s2.2.2.1 - 1 + 1 = s2.2.2.1 by omega]
              exact SmV_cg d6 (fun j hj => up_n (by omega))
            · rw [up_n (by omega), d3 _ (by omega), C3']
              omega
          · refine a7 r (b7 r (d7' r ?_))
            have h' : GoX K V so (af7 K P o (s4.2.1 + 1) (W ++ (rc0 ++ rc1 ++ rc2 ++ [(3, 0)]))) r := h
            rw [show W ++ (rc0 ++ rc1 ++ rc2 ++ [(3, 0)]) = W ++ rc0 ++ rc1 ++ rc2 ++ [(3, 0)] by simp [List.append_assoc]] at h'
            exact Gto_1 h'
        · rw [if_neg y] at d7'
          have e5 : pExp K 140 s4 = (1, s4.2) := by
            unfold pExp
            rw [if_neg (fun q => y q.2)]
            unfold pFail
            rw [if_pos z4]
          rw [e5, pLead_n (show (1 : Int) ≠ 0 by omega)]
          exact Or.inr ⟨by show (1 : Int) ≠ 0; omega, a7 _ (b7 _ (d7' _ rfl))⟩
      · rw [i3] at d1
        rw [pExp_n z4, pLead_n z4]
        exact Or.inr ⟨z4, a7 _ (b7 _ d1)⟩
    · rw [pLead_n z2, hS.1 s2 z2, pExp_n z2, pLead_n z2]
      exact Or.inr ⟨z2, a7 _ b1⟩
  · have e3 : pCh2 K one s1 = s1 := by rw [e2, hS.1 s1 z1, pExp_n z1, pEmit_n z1]
    rw [e3, pLead_n z1, hS.1 s1 z1, pExp_n z1, pLead_n z1]
    exact Or.inr ⟨z1, a1⟩
/-- a sign or word that opens something -/
theorem op_out (hK : HK K V N) (h8 : 0 ≤ o ∧ o < 8) (h1 : Rds K V so N one SmV QT (AV 7 5 (o + 1)) (af7 K) (o + 1)) (hS : Rds K V so N (pSum K one) SmV QS (AV 4 3 (o + 1)) (rBeh K) (o + 1)) (hE : Rds K V so N (pEither K ask) SmB QE (AB 0 0 (o + 1)) (rAsk K) (o + 1)) {P : List Int} {W : wT} {st : pT} {f : Int} (hp : P.length ≤ 6 * o + 5) (h0 : st.1 = 0) (hW : Wst N st) (hs : st.2.2.1 + 1 ≤ st.2.1) (hf : f = 40 ∨ f = 45 ∨ f = 135 ∨ f = 136 ∨ f = 137) : OutS K V so P (opc f :: P) o (o + 1) W st (pOpB K one ask f st) := by
  have N3 := hK.1
  have lp : ∀ q : Int, (q :: P).length = P.length + 1 := fun _ => rfl
  have un : ∀ g a : Int, ((g = 5 ∧ a = 5) ∨ (g = 135 ∧ a = 2) ∨ (g = 136 ∧ a = 4)) → OutS K V so P (a :: P) o (o + 1) W st (pEmit g 0 (one st)) := fun g a ha => by
    have ra : rk a = 7 := by rcases ha with ⟨_, e⟩ | ⟨_, e⟩ | ⟨_, e⟩ <;> subst e <;> rfl
    have q := h1.2.2 (a :: P) W st ⟨by rw [rkt_c, ra]; omega, by rw [lp]; omega, fun _ => by rw [askA_c (by omega), ra]; split <;> rfl⟩ h0 hW (by omega)
    have w := h1.2.1 st hW
    generalize one st = s1 at q w ⊢
    rcases q with ⟨z, q1, q2, q3, q4, rc, q5, q6, q7⟩ | ⟨z, q1⟩
    · have l := q6.1
      have w3 := w.2.2.2.1
      have t1 : ∀ W2 : wT, af7 K (a :: P) (o + 1) s1.2.1 W2 = af7 K P o s1.2.1 (W2 ++ [(a, 0)]) := fun W2 => by
        unfold af7
        rw [stl_c (show 7 ≤ rk a by omega), if_pos (Or.inl ra), show o + 1 - 1 = o by omega]
      rw [pEmit_y ⟨z, by omega⟩]
      refine Or.inl ⟨z, q1, by show s1.2.2.1 + 1 - st.2.2.1 ≤ s1.2.1 - st.2.1 + 1; omega, fun j hj => ?_, rc ++ [(a, 0)], ?_, ?_, fun r h => q7 r ?_⟩
      · show up s1.2.2.2 s1.2.2.1 (g + 256 * 0) j = st.2.2.2 j
        rw [up_n (by omega), q3 j hj]
      · rw [lapp]
        show ((rc.length + 1 : Nat) : Int) ≤ s1.2.1 - st.2.1 + 1
        omega
      · show SmV (up s1.2.2.2 s1.2.2.1 (g + 256 * 0)) st.2.2.1 (s1.2.2.1 + 1) _
        exact SmV_un (SmV_cg q6 (fun j hj => up_n (by omega))) (by omega) (up_e rfl) ha
      · rw [t1, List.append_assoc]
        exact h
    · rw [pEmit_n z]
      exact Or.inr ⟨z, q1⟩
  unfold pOpB
  rcases hf with e | e | e | e | e <;> subst e
  · rw [if_pos rfl]
    show OutS K V so P (40 :: P) o (o + 1) W st (pExp K 41 (pSum K one st))
    have q := hS.2.2 (40 :: P) W st ⟨show rk 40 ≤ 4 by decide, by rw [lp]; omega, fun _ => rfl⟩ h0 hW (by omega)
    have w := hS.2.1 st hW
    generalize pSum K one st = s1 at q w ⊢
    rcases q with ⟨z, q1, q2, q3, q4, rc, q5, q6, q7⟩ | ⟨z, q1⟩
    · have q7' := fun r => q7 r
      simp only [rBeh_40 q4] at q7'
      by_cases y : K s1.2.1 = 41
      · rw [if_pos y] at q7'
        have e1 : pExp K 41 s1 = pAdv s1 := if_pos ⟨z, y⟩
        rw [e1]
        refine Or.inl ⟨z, by show st.2.1 < s1.2.1 + 1; omega, by show s1.2.2.1 - st.2.2.1 ≤ s1.2.1 + 1 - st.2.1 + 1; omega, q3, rc, by show (rc.length : Int) ≤ s1.2.1 + 1 - st.2.1 + 1; omega, q6, fun r h => q7' r (Gto_1 h)⟩
      · rw [if_neg y] at q7'
        have e1 : pExp K 41 s1 = (1, s1.2) := by
          unfold pExp
          rw [if_neg (fun q => y q.2)]
          unfold pFail
          rw [if_pos z]
        rw [e1]
        exact Or.inr ⟨by show (1 : Int) ≠ 0; omega, q7' _ rfl⟩
    · rw [pExp_n z]
      exact Or.inr ⟨z, q1⟩
  · rw [if_neg (by decide), if_neg (by decide)]
    exact un 5 5 (by decide)
  · rw [if_neg (by decide), if_neg (by decide)]
    exact un 135 2 (by decide)
  · rw [if_neg (by decide), if_neg (by decide)]
    exact un 136 4 (by decide)
  · rw [if_neg (by decide), if_pos rfl]
    exact choice_out hK h8 hS hE hp h0 hW (by omega)
/-- one thing -/
theorem one_rd {F : Int → pT → pT} (hK : HK K V N) (h8 : 0 ≤ o ∧ o ≤ 8) (hck : (ck = 128 ∧ so = 0) ∨ (ck = 129 ∧ so = 1)) (hW1 : ∀ st : pT, Wst N st → Wst N (pOneB K V ck F st)) (hF : ∀ (P : List Int) (W : wT) (st : pT), P.length ≤ 6 * o + 5 → st.1 = 0 → Wst N st → st.2.2.1 ≤ st.2.1 → (K st.2.1 = 40 ∨ K st.2.1 = 45 ∨ K st.2.1 = 135 ∨ K st.2.1 = 136 ∨ K st.2.1 = 137) → Out K V so SmV QT (af7 K) P o W st (F (K st.2.1) st)) : Rds K V so N (pOneB K V ck F) SmV QT (AV 7 5 o) (af7 K) o := by
  refine ⟨fun st h0 => if_neg h0, hW1, fun P W st hA h0 hW hs => ?_⟩
  have N3 := hK.1
  have s0 := hW.2.2.2.2.1
  have kv := hK.2 st.2.1 ⟨hW.2.2.1, hW.2.2.2.1⟩
  have iN := kv.2.2.2.2
  have lay : ∀ (rc : wT) (c : Int), rc.length = 1 → st.2.1 < N → SmV (up st.2.2.2 st.2.2.1 c) st.2.2.1 (st.2.2.1 + 1) rc → rBeg K V so P o st.2.1 W = .inl ((stl 7 P o (W ++ rc)).1, (stl 7 P o (W ++ rc)).2.1, 1, st.2.1 + 1, (stl 7 P o (W ++ rc)).2.2) → Out K V so SmV QT (af7 K) P o W st (st.1, st.2.1 + 1, st.2.2.1 + 1, up st.2.2.2 st.2.2.1 c) := fun rc c hl hi hm hr => by
    refine Or.inl ⟨h0, by show st.2.1 < st.2.1 + 1; omega, by show st.2.2.1 + 1 - st.2.2.1 ≤ st.2.1 + 1 - st.2.1; omega, fun j hj => up_n (by omega), trivial, rc, by rw [hl]; show ((1 : Nat) : Int) ≤ st.2.1 + 1 - st.2.1; omega, hm, fun r h => Gto_0 ?_⟩
    rw [hr]
    exact Gto_1 h
  have bad : ∀ e : Int, e ≠ 0 → rBeg K V so P o st.2.1 W = .inr (e, st.2.1, []) → Out K V so SmV QT (af7 K) P o W st (e, st.2) := fun e he hr => Or.inr ⟨he, Gto_0 (by rw [hr]; rfl)⟩
  have pf : ∀ e : Int, pFail e st = (e, st.2) := fun e => if_pos h0
  unfold pOneB
  rw [if_pos h0]
  by_cases y1 : K st.2.1 = 2
  · rw [if_pos y1]
    have hi := iN (by omega)
    unfold pNum
    by_cases y2 : 9999 < V st.2.1
    · rw [if_pos ⟨h0, y1, Or.inr y2⟩, pf, pExp_n (show (2 : Int) ≠ 0 by omega), pEmit_n (show (2 : Int) ≠ 0 by omega)]
      exact bad 2 (by omega) (by unfold rBeg; rw [if_pos y1, if_pos y2])
    · have e1 : pExp K 2 st = pAdv st := if_pos ⟨h0, y1⟩
      rw [if_neg (fun q => by omega), e1, pEmit_y (st := pAdv st) ⟨h0, by show st.2.2.1 < 300; omega⟩]
      exact lay [(0, V st.2.1)] (2 + 256 * V st.2.1) rfl hi (SmV_num ⟨s0, by omega⟩ ⟨kv.2.2.1, by omega⟩ (up_e rfl)) (by unfold rBeg; rw [if_pos y1, if_neg y2])
  · rw [if_neg y1]
    by_cases y2 : 144 ≤ K st.2.1 ∧ K st.2.1 < 152
    · rw [if_pos y2]
      have hi := iN (by omega)
      have nb : 0 ≤ nmk (K st.2.1) ∧ (nmk (K st.2.1) = 6 ↔ K st.2.1 = 151) ∧ (nmk (K st.2.1) = 7 ↔ K st.2.1 = 150) := by
        have : K st.2.1 = 144 ∨ K st.2.1 = 145 ∨ K st.2.1 = 146 ∨ K st.2.1 = 147 ∨ K st.2.1 = 148 ∨ K st.2.1 = 149 ∨ K st.2.1 = 150 ∨ K st.2.1 = 151 := by omega
        rcases this with e | e | e | e | e | e | e | e <;> rw [e] <;> decide
      unfold pName
      by_cases y3 : (K st.2.1 = 150 ∧ ck = 128) ∨ (K st.2.1 = 151 ∧ ck = 129)
      · rw [if_pos y3, pf, pEmit_n (show (5 : Int) ≠ 0 by omega), pExp_n (show (5 : Int) ≠ 0 by omega)]
        exact bad 5 (by omega) (by unfold rBeg; rw [if_neg y1, if_pos nb.1, if_pos (by omega)])
      · rw [if_neg y3, pEmit_y ⟨h0, by omega⟩]
        have e1 : pExp K (K st.2.1) (st.1, st.2.1, st.2.2.1 + 1, up st.2.2.2 st.2.2.1 (K st.2.1 + 256 * 0)) = (st.1, st.2.1 + 1, st.2.2.1 + 1, up st.2.2.2 st.2.2.1 (K st.2.1 + 256 * 0)) := if_pos ⟨h0, rfl⟩
        rw [e1]
        exact lay [(1, nmk (K st.2.1))] (K st.2.1 + 256 * 0) rfl hi (SmV_name ⟨s0, by omega⟩ y2 (up_e rfl)) (by unfold rBeg; rw [if_neg y1, if_pos nb.1, if_neg (by omega)])
    · rw [if_neg y2]
      by_cases y3 : K st.2.1 = 40 ∨ K st.2.1 = 45 ∨ K st.2.1 = 135 ∨ K st.2.1 = 136 ∨ K st.2.1 = 137
      · rw [if_pos y3]
        exact hF P W st hA.2.1 h0 hW hs y3
      · rw [if_neg y3, pf]
        refine bad 1 (by omega) ?_
        unfold rBeg
        rw [if_neg y1, nmk_o ⟨y1, y2⟩, if_neg (show ¬ (0 : Int) ≤ -1 by omega), opc_o y3, if_neg (show ¬ (0 : Int) ≤ -1 by omega), if_neg]
        intro q
        have := hA.2.2 q.1
        omega
/-- all levels -/
theorem lv_rd (hK : HK K V N) (hck : (ck = 128 ∧ so = 0) ∨ (ck = 129 ∧ so = 1)) : ∀ k : Nat, k ≤ 8 → Rds K V so N (pLv K V ck k).1 SmV QT (AV 7 5 (8 - k)) (af7 K) (8 - k) ∧ Rds K V so N (pLv K V ck k).2 SmB QT (AB 3 2 (8 - k)) (rAsk K) (8 - k)
  | 0, _ => by
    have w := W_lv (ck := ck) hK 0
    have e : (8 : Int) - ((0 : Nat) : Int) = 8 := by omega
    rw [e]
    have a : Rds K V so N (pLv K V ck 0).1 SmV QT (AV 7 5 8) (af7 K) 8 := one_rd (F := fun _ st => pFail 3 st) hK (by decide) hck w.1 (fun P W st hp h0 hW hs hk => by
      show Out K V so SmV QT (af7 K) P 8 W st (pFail 3 st)
      unfold pFail
      rw [if_pos h0]
      exact Or.inr ⟨by show (3 : Int) ≠ 0; omega, Gto_0 (by rw [rBeg_op hk, rOp_8]; rfl)⟩)
    exact ⟨a, ask0_rd hK (sum_rd hK (by decide) a) w.2⟩
  | k + 1, hk => by
    have w := W_lv (ck := ck) hK (k + 1)
    obtain ⟨i1, i2⟩ := lv_rd hK hck k (by omega)
    have e : (8 : Int) - (k : Int) = 8 - ((k + 1 : Nat) : Int) + 1 := by omega
    rw [e] at i1 i2
    have h8 : 0 ≤ (8 : Int) - ((k + 1 : Nat) : Int) ∧ (8 : Int) - ((k + 1 : Nat) : Int) < 8 := by omega
    generalize (8 : Int) - ((k + 1 : Nat) : Int) = o at *
    have hS := sum_rd hK (by omega) i1
    have hE := either_rd hK (by omega) i2
    have N3 := hK.1
    have a : Rds K V so N (pLv K V ck (k + 1)).1 SmV QT (AV 7 5 o) (af7 K) o := one_rd (F := fun first st => pOpB K (pLv K V ck k).1 (pLv K V ck k).2 first (pAdv st)) hK (by omega) hck w.1 (fun P W st hp h0 hW hs hk => by
      have hi := (hK.2 st.2.1 ⟨hW.2.2.1, hW.2.2.2.1⟩).2.2.2.2 (by omega)
      have q := op_out hK h8 i1 hS hE (W := W) hp (st := pAdv st) h0 (W_adv hK hW (by omega)) (by show st.2.2.1 + 1 ≤ st.2.1 + 1; omega) hk
      have go : ∀ r : rR, Gto K V so (opc (K st.2.1) :: P, o + 1, 0, st.2.1 + 1, W) r → Gto K V so (P, o, 0, st.2.1, W) r := fun r h => Gto_0 (by
        rw [rBeg_op hk, rOp_y (by omega) (by omega)]
        exact h)
      show Out K V so SmV QT (af7 K) P o W st (pOpB K (pLv K V ck k).1 (pLv K V ck k).2 (K st.2.1) (pAdv st))
      generalize pOpB K (pLv K V ck k).1 (pLv K V ck k).2 (K st.2.1) (pAdv st) = s1 at q ⊢
      rcases q with ⟨z, q1, q2, q3, rc, q5, q6, q7⟩ | ⟨z, q1⟩
      · have q1' : st.2.1 + 1 < s1.2.1 := q1
        have q2' : s1.2.2.1 - st.2.2.1 ≤ s1.2.1 - (st.2.1 + 1) + 1 := q2
        have q5' : (rc.length : Int) ≤ s1.2.1 - (st.2.1 + 1) + 1 := q5
        exact Or.inl ⟨z, by omega, by omega, q3, trivial, rc, by omega, q6, fun r h => go r (q7 r h)⟩
      · exact Or.inr ⟨z, go _ q1⟩)
    exact ⟨a, askS_rd hK h8 (sum_rd hK (by omega) a) i2 w.2⟩
/-- a sum, class and reference -/
theorem sum_all (hK : HK K V N) (hck : (ck = 128 ∧ so = 0) ∨ (ck = 129 ∧ so = 1)) {st : pT} (h0 : st.1 = 0) (hW : Wst N st) (hs : st.2.2.1 ≤ st.2.1) : ((pSum K (pLv K V ck 8).1 st).1 = 0 ∧ st.2.1 < (pSum K (pLv K V ck 8).1 st).2.1 ∧ (pSum K (pLv K V ck 8).1 st).2.2.1 - st.2.2.1 ≤ (pSum K (pLv K V ck 8).1 st).2.1 - st.2.1 ∧ (∀ j : Int, j < st.2.2.1 → (pSum K (pLv K V ck 8).1 st).2.2.2 j = st.2.2.2 j) ∧ ∃ rc : wT, (rc.length : Int) ≤ (pSum K (pLv K V ck 8).1 st).2.1 - st.2.1 ∧ SmV (pSum K (pLv K V ck 8).1 st).2.2.2 st.2.2.1 (pSum K (pLv K V ck 8).1 st).2.2.1 rc ∧ Gto K V so ([], 0, 0, st.2.1, []) (0, (pSum K (pLv K V ck 8).1 st).2.1, rc)) ∨ ((pSum K (pLv K V ck 8).1 st).1 ≠ 0 ∧ Gto K V so ([], 0, 0, st.2.1, []) ((pSum K (pLv K V ck 8).1 st).1, (pSum K (pLv K V ck 8).1 st).2.1, [])) := by
  have h := sum_rd hK (by decide) ((lv_rd hK hck 8 (Nat.le_refl 8)).1)
  have e : (8 : Int) - ((8 : Nat) : Int) = 0 := by decide
  rw [e] at h
  have q := h.2.2 [] [] st ⟨by decide, by decide, fun _ => rfl⟩ h0 hW hs
  generalize pSum K (pLv K V ck 8).1 st = s1 at q ⊢
  rcases q with ⟨z, q1, q2, q3, q4, rc, q5, q6, q7⟩ | q
  · refine Or.inl ⟨z, q1, q2, q3, rc, q5, q6, q7 _ ?_⟩
    have bt : btw (K s1.2.1) [] = -1 := by rw [btw_no ⟨q4.1.2.1, q4.2.1, q4.2.2, q4.1.2.2⟩, if_neg (by decide)]
    unfold rBeh
    rw [bt, if_neg (show ¬ (0 : Int) ≤ -1 by omega)]
    have p : prt (K s1.2.1) (opn []) [] = -1 := rfl
    rw [p, if_pos (show (-1 : Int) < 0 by omega), if_neg (by decide)]
    rfl
  · exact Or.inr q
end P5996
