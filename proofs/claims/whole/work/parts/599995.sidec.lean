/-! a clause, class and reference side by side: all in one -/
section P599995
variable {L : Nat} {xs : Nat → Int32} {E : mj_E} {G : gT} {ro : rT} {tl : List mj_C} {d : Nat}
variable {X : Int → Int} {Lt N t : Int} {st : pT}
theorem R_cl (hB : BKx X Lt N G) (hw : Wst N st) (hc : 0 ≤ G 51 6 ∧ G 51 6 ≤ 24) (h0 : st.1 = 0) (ht : 0 ≤ t ∧ t < 4) : ∃ (G2 : gT) (v : pT) (ro3 : rT) (tl3 : List mj_C), mj_ca E mj_bi (d + 174) 104 [.ref 51] (mj_HN (stH G st) ro tl) = some (none, (mj_HN (stH G2 v) ro3 tl3)) ∧ BKx X Lt N G2 ∧ Wst N v ∧ CFr G G2 ∧ (∀ (c : Nat) (j : Int), c ≠ 51 → ro3 c j = ro c j) ∧ (∀ (kb n : Nat) (C : Int → Int), arrAt tl kb n C → arrAt tl3 kb n C) ∧ (tl3 = tl ∨ ∃ (n : Nat) (g : Int → Int), n ≤ 300 ∧ tl3 = tl ++ [rwA n g]) ∧ (v.1 = 0 → st.2.1 < v.2.1 ∧ G2 51 6 = G 51 6 + 1 ∧ G 51 6 < 24) ∧ ∀ (E2 : mj_E) (H : gT) (ro2 : rT) (tl2 : List mj_C) (d2 : Nat) (w0 : Int), HRf X Lt N H t st.2.1 w0 (sn (ro 51 3) (ro 51 4)) → MT tl (G 53) (ro 51 3) (ro 51 4) (H 62) t (G 51 6) w0 → ∃ (H2 : gT) (w1 : Int), mj_ca E2 mj_bi (d2 + 18) 279 [.ref 59] (mj_HN H ro2 tl2) = some (some (.int (zI v.1)), mj_HN H2 ro2 tl2) ∧ RFr t H H2 ∧ TKp X Lt (lxp X Lt v.2.1.toNat) (H2 59) ∧ TXP (H2 62) ∧ (v.1 = 0 → HRf X Lt N H2 t v.2.1 w1 (sn (ro3 51 3) (ro3 51 4)) ∧ MT tl3 (G2 53) (ro3 51 3) (ro3 51 4) (H2 62) t (G2 51 6) w1) := by
  by_cases hbad : ¬ startK ((kdx X Lt) st.2.1) ∨ ((kdx X Lt) st.2.1 = 128 ∧ ro 51 3 ≠ none) ∨ ((kdx X Lt) st.2.1 = 129 ∧ ro 51 4 ≠ none) ∨ G 51 6 = 24
  · obtain ⟨e, e1, e2, e3⟩ := R_cl_f (E := E) (tl := tl) (d := d) hB hw hc rfl h0 ht hbad
    refine ⟨_, (e, st.2), ro, tl, e2, G7_B hB, ⟨by show 0 ≤ e; omega, by show e ≤ 6; omega, hw.2.2⟩, G7_F, fun _ _ _ => rfl, fun _ _ _ h => h, Or.inl rfl, fun q => by have q' : e = 0 := q; omega, fun E2 H ro2 tl2 d2 w0 hH hM => ?_⟩
    exact ⟨H, w0, e3 E2 H ro2 tl2 d2 w0 hH hM, ⟨fun _ _ => rfl, fun _ _ => rfl, fun _ _ => rfl⟩, hH.2.1, hH.2.2.1, fun q => by have q' : e = 0 := q; omega⟩
  · have b1 : startK ((kdx X Lt) st.2.1) := Classical.byContradiction (fun q => hbad (Or.inl q))
    have b2 : (kdx X Lt) st.2.1 = 128 → ro 51 3 = none := fun q => Classical.byContradiction (fun z => hbad (Or.inr (Or.inl ⟨q, z⟩)))
    have b3 : (kdx X Lt) st.2.1 = 129 → ro 51 4 = none := fun q => Classical.byContradiction (fun z => hbad (Or.inr (Or.inr (Or.inl ⟨q, z⟩))))
    have b4 : G 51 6 < 24 := by
      have : ¬ G 51 6 = 24 := fun q => hbad (Or.inr (Or.inr (Or.inr q)))
      omega
    by_cases y : (kdx X Lt) st.2.1 = 128 ∨ (kdx X Lt) st.2.1 = 129
    · have h5 : ((kdx X Lt) st.2.1 = 128 ∧ (if (kdx X Lt) st.2.1 = 128 then (0 : Int) else 1) = 0 ∧ ro 51 3 = none) ∨ ((kdx X Lt) st.2.1 = 129 ∧ (if (kdx X Lt) st.2.1 = 128 then (0 : Int) else 1) = 1 ∧ ro 51 4 = none) := by
        rcases y with q | q
        · exact Or.inl ⟨q, if_pos q, b2 q⟩
        · exact Or.inr ⟨q, if_neg (by omega), b3 q⟩
      obtain ⟨G2, v, ro3, tl3, c1, c2, c3, c4, c5, c6, c7, c8, c9⟩ := R_cl_l (E := E) (tl := tl) (d := d) hB hw ⟨hc.1, b4⟩ rfl h0 ht h5
      exact ⟨G2, v, ro3, tl3, c1, c2, c3, c4, c5, c6, c7, fun q => ⟨(c8 q).1, (c8 q).2, b4⟩, c9⟩
    · have h5 : (kdx X Lt) st.2.1 = 130 ∨ (kdx X Lt) st.2.1 = 145 ∨ (kdx X Lt) st.2.1 = 133 ∨ (kdx X Lt) st.2.1 = 144 ∨ (kdx X Lt) st.2.1 = 131 ∨ (kdx X Lt) st.2.1 = 132 := by
        unfold startK at b1
        omega
      obtain ⟨G2, v, c1, c2, c3, c4, c8, c9⟩ := R_cl_d (E := E) (ro := ro) (tl := tl) (d := d) hB hw ⟨hc.1, b4⟩ rfl h0 ht h5
      refine ⟨G2, v, ro, tl, c1, c2, c3, c4, fun _ _ _ => rfl, fun _ _ _ h => h, Or.inl rfl, fun q => ⟨(c8 q).1, (c8 q).2, b4⟩, fun E2 H ro2 tl2 d2 w0 hH hM => ?_⟩
      obtain ⟨H2, k1, k2, k3, k4, k5⟩ := c9 E2 H ro2 tl2 d2 w0 hH hM
      exact ⟨H2, w0, k1, k2, k3, k4, k5⟩
end P599995
