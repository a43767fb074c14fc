/-! a deed's clause, class and reference side by side -/
theorem rE_t {K V : Int → Int} {k t0 c i j : Int} {T : Int → Int} (h0 : j ≠ t0) (h1 : j ≠ t0 + 1 + 3 * c) (h2 : j ≠ t0 + 1 + 3 * c + 1) (h3 : j ≠ t0 + 1 + 3 * c + 2) : (rE K V k t0 c i T).2.2 j = T j := by
  have e : (rD K V k (t0 + 1 + 3 * c) (0, i + 1, up T (t0 + 1 + 3 * c) (srt k))).2.2 j = T j := by
    rw [rD_t h2 h3]
    exact up_n h1
  unfold rE
  rw [rWd_t]
  split
  · show up (rD K V k (t0 + 1 + 3 * c) (0, i + 1, up T (t0 + 1 + 3 * c) (srt k))).2.2 t0 (c + 1) j = T j
    rw [up_n h0, e]
  · exact e
theorem W_dC {K V : Int → Int} {N k : Int} {st : pT} (hK : HK K V N) (h : Wst N st) : Wst N (dC K V k st) := by
  unfold dC
  refine W_exp hK ?_ (by omega)
  unfold dB dA
  split
  · exact W_num hK h
  · rename_i q
    exact W_num hK (W_exp hK (W_num hK h) q)
theorem kk_53 {G : gT} {k a b : Int} : kkG (G7 G k) a b 53 = cl3 (G 53) (G 51 6) k a b := by
  unfold kkG
  rw [gre, G7_6, G7_7]
  unfold G7
  rw [grc (by decide)]
  rfl
theorem kk_51 {G : gT} {k a b : Int} : kkG (G7 G k) a b 51 6 = G 51 6 + 1 := by
  unfold kkG
  rw [grc (by decide), gre, up_e rfl, G7_6]
theorem kk_o {G : gT} {k a b : Int} {c : Nat} (h : c ≠ 51 ∧ c ≠ 53) : kkG (G7 G k) a b c = G c := by
  unfold kkG G7
  rw [grc h.2, grc h.1, grc h.1]
theorem kk_j {G : gT} {k a b j : Int} (h : j ≠ 6 ∧ j ≠ 7) : kkG (G7 G k) a b 51 j = G 51 j := by
  unfold kkG G7
  rw [grc (by decide), gre, up_n h.1, gre, up_n h.2]
theorem kk_B {X : Int → Int} {L N : Int} {G : gT} {k a b : Int} (h : BKx X L N G) : BKx X L N (kkG (G7 G k) a b) := by
  unfold BKx TKC kkG G7 at *
  simp (disch := decide) only [grc]
  exact h
/-- what a clause of the class leaves alone -/
def CFr (G G2 : gT) : Prop := (∀ c : Nat, c ≠ 51 ∧ c ≠ 53 → G2 c = G c) ∧ ∀ j : Int, j ≠ 6 ∧ j ≠ 7 → G2 51 j = G 51 j
def RFr (t : Int) (H H2 : gT) : Prop := (∀ c : Nat, c ≠ 59 ∧ c ≠ 62 ∧ c ≠ 64 → H2 c = H c) ∧ (∀ j : Int, j < 7 ∨ j = 12 ∨ j = 15 ∨ 19 < j → H2 59 j = H 59 j) ∧ ∀ j : Int, j < 681 * t ∨ 681 * t + 681 ≤ j → H2 62 j = H 62 j
theorem G7_F {G : gT} {k : Int} : CFr G (G7 G k) := by
  unfold G7
  exact ⟨fun c h => grc h.1, fun j h => by rw [gre, up_n h.2]⟩
theorem kk_F {G : gT} {k a b : Int} : CFr G (kkG (G7 G k) a b) := ⟨fun c h => kk_o h, fun j h => kk_j h⟩
section P599993
variable {L : Nat} {xs : Nat → Int32} {E : mj_E} {G : gT} {ro : rT} {tl : List mj_C} {d : Nat}
variable {X : Int → Int} {Lt N k t : Int} {st : pT}
theorem R_cl_d (hB : BKx X Lt N G) (hw : Wst N st) (hc : 0 ≤ G 51 6 ∧ G 51 6 < 24) (hk : (kdx X Lt) st.2.1 = k) (h0 : st.1 = 0) (ht : 0 ≤ t ∧ t < 4) (h5 : k = 130 ∨ k = 145 ∨ k = 133 ∨ k = 144 ∨ k = 131 ∨ k = 132) : ∃ (G2 : gT) (v : pT), mj_ca E mj_bi (d + 174) 104 [.ref 51] (mj_HN (stH G st) ro tl) = some (none, (mj_HN (stH G2 v) ro tl)) ∧ BKx X Lt N G2 ∧ Wst N v ∧ CFr G G2 ∧ (v.1 = 0 → st.2.1 < v.2.1 ∧ G2 51 6 = G 51 6 + 1) ∧ ∀ (E2 : mj_E) (H : gT) (ro2 : rT) (tl2 : List mj_C) (d2 : Nat) (w0 : Int), HRf X Lt N H t st.2.1 w0 (sn (ro 51 3) (ro 51 4)) → MT tl (G 53) (ro 51 3) (ro 51 4) (H 62) t (G 51 6) w0 → ∃ H2 : gT, mj_ca E2 mj_bi (d2 + 18) 279 [.ref 59] (mj_HN H ro2 tl2) = some (some (.int (zI v.1)), mj_HN H2 ro2 tl2) ∧ RFr t H H2 ∧ TKp X Lt (lxp X Lt v.2.1.toNat) (H2 59) ∧ TXP (H2 62) ∧ (v.1 = 0 → HRf X Lt N H2 t v.2.1 w0 (sn (ro 51 3) (ro 51 4)) ∧ MT tl (G2 53) (ro 51 3) (ro 51 4) (H2 62) t (G2 51 6) w0) := by
  have ip := hw.2.2.1
  have hK := BK_HK hB
  have iN := (hK.2 st.2.1 ⟨hw.2.2.1, hw.2.2.2.1⟩).2.2.2.2 (by omega)
  have c1 := q_cl_d (E := E) (ro := ro) (tl := tl) (d := d) hB hw ⟨hc.1, by omega⟩ hk hc.2 h5
  have wv : Wst N (dC (kdx X Lt) (vdx X Lt) k (pAdv st)) := W_dC hK (W_adv hK hw (by omega))
  have same := fun (T : Int → Int) (t0 : Int) (u : rW) (hu : rE (kdx X Lt) (vdx X Lt) k t0 (G 51 6) st.2.1 T = u) => deed_same (K := (kdx X Lt)) (V := (vdx X Lt)) h0 hu hc.1
  refine ⟨kp (dC (kdx X Lt) (vdx X Lt) k (pAdv st)) (G7 G k) ((vdx X Lt) (pAdv st).2.1) (dv (kdx X Lt) (vdx X Lt) k (pAdv st)), dC (kdx X Lt) (vdx X Lt) k (pAdv st), c1, ?_, wv, ?_, fun z => ?_, fun E2 H ro2 tl2 d2 w0 hH hM => ?_⟩
  · unfold kp
    split
    · exact kk_B hB
    · exact G7_B hB
  · unfold kp
    split
    · exact kk_F
    · exact G7_F
  · have s0 := same (fun _ => 0) 0 _ rfl
    have s1 := s0.2 (by rw [← s0.1.1]; exact z)
    refine ⟨by rw [s0.1.2]; exact s1.1, ?_⟩
    unfold kp
    rw [if_pos z]
    exact kk_51
  · obtain ⟨r1, r2, r3, r4, r5, r6, r7⟩ := hH
    have n5 := (sn_b (b := ro 51 3) (r := ro 51 4)).2.2.2.2
    generalize hu : rE (kdx X Lt) (vdx X Lt) k (681 * t) (G 51 6) st.2.1 (H 62) = u
    obtain ⟨s1, s2⟩ := same _ _ _ hu
    obtain ⟨F, f1, f2, f3, f4, f5, f6, f7⟩ := m_cl_d (E := E2) (ro := ro2) (tl := tl2) (d := d2) r1 ip r2 hk r3 r4 (by omega) ⟨hM.2.2.2.2.2, hc.1, by omega⟩ r7 n5 h5 hc.2 hu
    rw [s1.1, s1.2]
    refine ⟨gr (gr H 59 F) 62 u.2.2, f1, ⟨fun c hc => by rw [grc (by omega), grc (by omega)], fun j hj => by rw [grc (by decide), gre, f3 j (by omega) (by omega)], fun j hj => ?_⟩, by rw [grc (by decide), gre]; exact f2, by rw [gre]; exact f5, fun z => ?_⟩
    · rw [gre, ← hu, rE_t (by omega) (by omega) (by omega) (by omega)]
    · have q := s2 z
      refine ⟨⟨BZ_62 (BZ_f r1 (f3 4 (by omega) (by omega))), by rw [grc (by decide), gre]; exact f2, by rw [gre]; exact f5, by rw [grc (by decide), gre, f3 12 (by omega) (by omega)]; exact r4, by rw [grc (by decide), gre, f3 13 (by omega) (by omega)]; exact r5, by omega, by rw [grc (by decide), gre, f3 19 (by omega) (by omega)]; exact r7⟩, ?_⟩
      have ek : kp (dC (kdx X Lt) (vdx X Lt) k (pAdv st)) (G7 G k) ((vdx X Lt) (pAdv st).2.1) (dv (kdx X Lt) (vdx X Lt) k (pAdv st)) = kkG (G7 G k) ((vdx X Lt) (pAdv st).2.1) (dv (kdx X Lt) (vdx X Lt) k (pAdv st)) := if_pos (by rw [s1.1]; exact z)
      rw [ek, kk_53, kk_51, gre]
      exact MT_deed hM h5 hc h0 hu z
end P599993
