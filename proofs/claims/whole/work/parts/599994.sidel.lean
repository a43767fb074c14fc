/-! a law's clause, class and reference side by side -/
section P599994
variable {L : Nat} {xs : Nat → Int32} {E : mj_E} {G : gT} {ro : rT} {tl : List mj_C} {d : Nat}
variable {X : Int → Int} {Lt N k t : Int} {st : pT}
theorem R_cl_l (hB : BKx X Lt N G) (hw : Wst N st) (hc : 0 ≤ G 51 6 ∧ G 51 6 < 24) (hk : (kdx X Lt) st.2.1 = k) (h0 : st.1 = 0) (ht : 0 ≤ t ∧ t < 4) {bq : Int} (h5 : (k = 128 ∧ bq = 0 ∧ ro 51 3 = none) ∨ (k = 129 ∧ bq = 1 ∧ ro 51 4 = none)) : ∃ (G2 : gT) (v : pT) (ro3 : rT) (tl3 : List mj_C), mj_ca E mj_bi (d + 174) 104 [.ref 51] (mj_HN (stH G st) ro tl) = some (none, (mj_HN (stH G2 v) ro3 tl3)) ∧ BKx X Lt N G2 ∧ Wst N v ∧ CFr G G2 ∧ (∀ (c : Nat) (j : Int), c ≠ 51 → ro3 c j = ro c j) ∧ (∀ (kb n : Nat) (C : Int → Int), arrAt tl kb n C → arrAt tl3 kb n C) ∧ (tl3 = tl ∨ ∃ (n : Nat) (g : Int → Int), n ≤ 300 ∧ tl3 = tl ++ [rwA n g]) ∧ (v.1 = 0 → st.2.1 < v.2.1 ∧ G2 51 6 = G 51 6 + 1) ∧ ∀ (E2 : mj_E) (H : gT) (ro2 : rT) (tl2 : List mj_C) (d2 : Nat) (w0 : Int), HRf X Lt N H t st.2.1 w0 (sn (ro 51 3) (ro 51 4)) → MT tl (G 53) (ro 51 3) (ro 51 4) (H 62) t (G 51 6) w0 → ∃ (H2 : gT) (w1 : Int), mj_ca E2 mj_bi (d2 + 18) 279 [.ref 59] (mj_HN H ro2 tl2) = some (some (.int (zI v.1)), mj_HN H2 ro2 tl2) ∧ RFr t H H2 ∧ TKp X Lt (lxp X Lt v.2.1.toNat) (H2 59) ∧ TXP (H2 62) ∧ (v.1 = 0 → HRf X Lt N H2 t v.2.1 w1 (sn (ro3 51 3) (ro3 51 4)) ∧ MT tl3 (G2 53) (ro3 51 3) (ro3 51 4) (H2 62) t (G2 51 6) w1) := by
  have ip := hw.2.2.1
  have hK := BK_HK hB
  have iN := (hK.2 st.2.1 ⟨hw.2.2.1, hw.2.2.2.1⟩).2.2.2.2 (by omega)
  have N3 := hK.1
  have wa : Wst N (pAdv st) := W_adv hK hw (by omega)
  have k2 : k = 128 ∨ k = 129 := by omega
  have kb : (k = 128 ∧ bq = 0) ∨ (k = 129 ∧ bq = 1) := by omega
  have w0' : Wst N ((0 : Int), st.2.1 + 1, (0 : Int), st.2.2.2) := ⟨Int.le_refl 0, by show (0 : Int) ≤ 6; omega, wa.2.2.1, wa.2.2.2.1, Int.le_refl 0, by show (0 : Int) ≤ 300; omega⟩
  have sk : startK k := by unfold startK; omega
  have r3 : k = 128 → ro 51 3 = none := fun e => by rcases h5 with q | q; exact q.2.2; omega
  have r4 : k = 129 → ro 51 4 = none := fun e => by rcases h5 with q | q; omega; exact q.2.2
  have eS : ((pAdv st).1, (pAdv st).2.1, (0 : Int), (pAdv st).2.2.2) = ((0 : Int), st.2.1 + 1, (0 : Int), st.2.2.2) := by
    show (st.1, st.2.1 + 1, (0 : Int), st.2.2.2) = _
    rw [h0]
  have sa := sum_all (K := (kdx X Lt)) (V := (vdx X Lt)) (N := N) (so := bq) (ck := k) hK (by omega) (st := ((0 : Int), st.2.1 + 1, (0 : Int), st.2.2.2)) rfl w0' (by show (0 : Int) ≤ st.2.1 + 1; omega)
  have ws := W_sum hK (W_lv (V := (vdx X Lt)) (ck := k) hK 8).1 _ w0'
  have wx := W_exp (k := 59) hK ws (by omega)
  have ql := fun s1 (hs : pExp (kdx X Lt) 59 (pSum (kdx X Lt) (pLv (kdx X Lt) (vdx X Lt) k 8).1 ((0 : Int), st.2.1 + 1, (0 : Int), st.2.2.2)) = s1) => q_law (E := E) (ro := ro) (tl := tl) (d := d) (ck := k) (G7_B (k := k) hB) wa (by rw [G7_6]; exact hc) G7_7 k2 (s1 := s1) (by rw [eS]; exact hs)
  generalize e1 : pExp (kdx X Lt) 59 (pSum (kdx X Lt) (pLv (kdx X Lt) (vdx X Lt) k 8).1 ((0 : Int), st.2.1 + 1, (0 : Int), st.2.2.2)) = s1 at wx ql
  have ql := ql s1 rfl
  generalize pSum (kdx X Lt) (pLv (kdx X Lt) (vdx X Lt) k 8).1 ((0 : Int), st.2.1 + 1, (0 : Int), st.2.2.2) = S at sa ws e1
  -- what the reference reads
  have key : ∃ r : rR, Gto (kdx X Lt) (vdx X Lt) bq ([], 0, 0, st.2.1 + 1, []) r ∧ r.1 ≠ 99 ∧ (s1.1, s1.2.1) = (if r.1 = 0 then (if (kdx X Lt) r.2.1 = 59 then (0, r.2.1 + 1) else (1, r.2.1)) else (r.1, r.2.1)) ∧ (s1.1 = 0 → st.2.1 + 1 < s1.2.1 ∧ (r.2.2.length : Int) ≤ s1.2.1 - (st.2.1 + 1) ∧ SmV s1.2.2.2 0 s1.2.2.1 r.2.2) := by
    rcases sa with ⟨z, a1, a2, a3, rc, a4, a5, a6⟩ | ⟨z, a1⟩
    · refine ⟨(0, S.2.1, rc), a6, by show (0 : Int) ≠ 99; omega, ?_, fun z1 => ?_⟩
      · rw [if_pos rfl]
        by_cases y : (kdx X Lt) S.2.1 = 59
        · have e : pExp (kdx X Lt) 59 S = pAdv S := if_pos ⟨z, y⟩
          rw [if_pos y, ← e1, e]
          show (S.1, S.2.1 + 1) = _
          rw [z]
        · have e : pExp (kdx X Lt) 59 S = (1, S.2) := by
            unfold pExp
            rw [if_neg (fun q => y q.2)]
            exact if_pos z
          rw [if_neg y, ← e1, e]
      · by_cases y : (kdx X Lt) S.2.1 = 59
        · have e : pExp (kdx X Lt) 59 S = pAdv S := if_pos ⟨z, y⟩
          rw [← e1, e]
          have a1' : st.2.1 + 1 < S.2.1 := a1
          have a4' : (rc.length : Int) ≤ S.2.1 - (st.2.1 + 1) := a4
          exact ⟨by show st.2.1 + 1 < S.2.1 + 1; omega, by show (rc.length : Int) ≤ S.2.1 + 1 - (st.2.1 + 1); omega, a5⟩
        · have e : pExp (kdx X Lt) 59 S = (1, S.2) := by
            unfold pExp
            rw [if_neg (fun q => y q.2)]
            exact if_pos z
          rw [← e1, e] at z1
          exact absurd z1 (by show ¬ (1 : Int) = 0; omega)
    · have e : s1 = S := by rw [← e1, pExp_n z]
      subst e
      refine ⟨(s1.1, s1.2.1, []), a1, by have := ws.2.1; show s1.1 ≠ 99; omega, ?_, fun z1 => absurd z1 z⟩
      rw [if_neg z]
  obtain ⟨r, hr, h99, hfi, hok⟩ := key
  have ref := fun (E2 : mj_E) (H : gT) (ro2 : rT) (tl2 : List mj_C) (d2 : Nat) (w0 : Int) (hH : HRf X Lt N H t st.2.1 w0 (sn (ro 51 3) (ro 51 4))) (hM : MT tl (G 53) (ro 51 3) (ro 51 4) (H 62) t (G 51 6) w0) => m_cl_l (E := E2) (ro := ro2) (tl := tl2) (d := d2) hH.1 ip hH.2.1 hk hH.2.2.1 hH.2.2.2.1 (by omega) ⟨hM.2.2.2.2.2, hc⟩ hH.2.2.2.2.2.2 (sn_b (b := ro 51 3) (r := ro 51 4)).2.2.2.2 hH.2.2.2.2.1 ⟨hM.2.2.2.1, by have := hH.2.2.2.2.2.1; omega⟩ (by omega) kb (by
    obtain ⟨n1, n2, n3, n4, n5⟩ := sn_b (b := ro 51 3) (r := ro 51 4)
    rcases h5 with ⟨_, e, q⟩ | ⟨_, e, q⟩ <;> subst e
    · exact n1 q
    · exact n3 q) hr h99
  rcases ql with ⟨z, q1⟩ | ⟨z, g, q1, q2⟩
  · refine ⟨G7 G k, s1, ro, tl, q_cl_l (E := E) (tl := tl) (d := d) hB hw ⟨hc.1, by omega⟩ hk sk r3 r4 hc.2 k2 q1 ⟨_, rfl⟩, G7_B hB, wx, G7_F, fun _ _ _ => rfl, fun _ _ _ h => h, Or.inl rfl, fun q => absurd q z, fun E2 H ro2 tl2 d2 w0 hH hM => ?_⟩
    obtain ⟨f, G3, i3, f1, f2, f3, f4, f5, f6, f7, f8, f9, f10⟩ := ref E2 H ro2 tl2 d2 w0 hH hM
    rw [← hfi] at f2
    have ef : f = s1.1 := congrArg Prod.fst f2
    have ei : i3 = s1.2.1 := congrArg Prod.snd f2
    subst ef ei
    exact ⟨G3, 0, f1, ⟨f4, f5, f8⟩, f3, f7, fun q => absurd q z⟩
  · obtain ⟨o1, o2, o3⟩ := hok z
    have sz : 0 ≤ s1.2.2.1 ∧ s1.2.2.1 ≤ 300 := wx.2.2.2.2
    have en : ((s1.2.2.1.toNat : Nat) : Int) = s1.2.2.1 := by omega
    refine ⟨kkG (G7 G k) 0 0, s1, rs ro 51 (if k = 128 then 3 else 4) (some (76 + tl.length)), tl ++ [rwA s1.2.2.1.toNat g], q_cl_l (E := E) (tl := tl) (d := d) hB hw ⟨hc.1, by omega⟩ hk sk r3 r4 hc.2 k2 q2 ⟨_, rfl⟩, kk_B hB, wx, kk_F, fun c j hcj => rs_c hcj, fun _ _ _ h => arr_ap h, Or.inr ⟨_, _, by omega, rfl⟩, fun _ => ⟨by omega, kk_51⟩, fun E2 H ro2 tl2 d2 w0 hH hM => ?_⟩
    obtain ⟨f, G3, i3, f1, f2, f3, f4, f5, f6, f7, f8, f9, f10⟩ := ref E2 H ro2 tl2 d2 w0 hH hM
    rw [← hfi] at f2
    have ef : f = s1.1 := congrArg Prod.fst f2
    have ei : i3 = s1.2.1 := congrArg Prod.snd f2
    subst ef ei
    refine ⟨G3, w0 + r.2.2.length, f1, ⟨f4, f5, f8⟩, f3, f7, fun _ => ?_⟩
    obtain ⟨g1, g2, g3, g4, g5, g6, g7, g8, g9⟩ := f9 z
    have hw1 := hH.2.2.2.2.2.1
    have hw2 := hM.2.2.2.1
    have e3 : rs ro 51 (if k = 128 then 3 else 4) (some (76 + tl.length)) 51 3 = if k = 128 then some (76 + tl.length) else ro 51 3 := by
      split
      · exact rs_e rfl
      · exact rs_i (by omega)
    have e4 : rs ro 51 (if k = 128 then 3 else 4) (some (76 + tl.length)) 51 4 = if k = 128 then ro 51 4 else some (76 + tl.length) := by
      split
      · exact rs_i (by omega)
      · exact rs_e rfl
    rw [e3, e4]
    refine ⟨⟨⟨hH.1.1, hH.1.2.1, hH.1.2.2.1, by rw [f4 63 (by decide)]; exact hH.1.2.2.2.1, by rw [f5 4 (by omega)]; exact hH.1.2.2.2.2.1, hH.1.2.2.2.2.2⟩, f3, f7, by rw [f5 12 (by omega)]; exact hH.2.2.2.1, g2, by omega, ?_⟩, ?_⟩
    · rw [g1]
      rcases h5 with ⟨e, f, q⟩ | ⟨e, f, q⟩ <;> subst e f <;> unfold sn <;> rw [q]
      · simp only [if_true, if_false, reduceCtorEq]; omega
      · simp only [if_true, if_false, reduceCtorEq, show ¬ (129 : Int) = 128 by decide]; omega
    · rw [kk_53, kk_51]
      exact MT_law (C := g) (n := s1.2.2.1.toNat) hM h5 hc (fun _ _ _ h => arr_ap h) (arr_new (by omega)) (by rw [en]; exact SmV_cg o3 (fun j hj => q1 j hj)) g8 g5 g6 g7 g4 g3 ⟨fun j hj => g9 j (by omega) (by omega) (by omega) (by omega) (by omega), fun j hj => g9 j (by omega) (by omega) (by omega) (by omega) (by omega)⟩
end P599994
