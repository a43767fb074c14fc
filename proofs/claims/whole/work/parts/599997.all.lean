/-! all clauses, class and reference side by side -/
def rws (tz : List mj_C) : Prop := ∀ c ∈ tz, ∃ (n : Nat) (g : Int → Int), n ≤ 300 ∧ c = rwA n g
theorem rws_nil : rws [] := fun c h => by cases h
theorem rws_one {m : Nat} {g : Int → Int} (h : m ≤ 300) : rws [rwA m g] := fun c hc => ⟨m, g, h, by cases hc with | head => rfl | tail _ q => cases q⟩
theorem rws_ap {a b : List mj_C} (ha : rws a) (hb : rws b) : rws (a ++ b) := fun c hc => by
  rcases List.mem_append.1 hc with q | q
  · exact ha c q
  · exact hb c q
section P599997
variable {L : Nat} {xs : Nat → Int32} {E : mj_E} {d : Nat}
variable {X : Int → Int} {Lt N t : Int}
theorem R_all (ht : 0 ≤ t ∧ t < 4) : ∀ (k : Nat) (G : gT) (st : pT) (ro : rT) (tl : List mj_C) (n : Int), n + k = 24 → 0 ≤ n → BKx X Lt N G → Wst N st → G 51 6 = n → st.1 = 0 → ∃ (n2 : Int) (G2 : gT) (v : pT) (ro3 : rT) (tl3 tz : List mj_C), mj_gi E mj_bi (d + 175) 97 1 [some (.ref 51), some (.int (zI n))] [] (mj_HN (stH G st) ro tl) = mj_gi E mj_bi (d + 175) 97 5 [some (.ref 51), some (.int (zI n2))] [] (mj_HN (stH G2 v) ro3 tl3) ∧ (0 ≤ n2 ∧ n2 ≤ 25) ∧ BKx X Lt N G2 ∧ Wst N v ∧ CFr G G2 ∧ (∀ (c : Nat) (j : Int), c ≠ 51 → ro3 c j = ro c j) ∧ tl3 = tl ++ tz ∧ (tz.length ≤ k + 1 ∧ rws tz) ∧ (v.1 = 0 → 0 ≤ G2 51 6 ∧ G2 51 6 ≤ 24) ∧ ∀ (E2 : mj_E) (H : gT) (ro2 : rT) (tl2 : List mj_C) (d2 : Nat) (w0 : Int), HRf X Lt N H t st.2.1 w0 (sn (ro 51 3) (ro 51 4)) → MT tl (G 53) (ro 51 3) (ro 51 4) (H 62) t (G 51 6) w0 → ∃ (H2 : gT) (w1 : Int), mj_gi E2 mj_bi (d2 + 18) 280 1 [some (.ref 59), none] [] (mj_HN H ro2 tl2) = some (some (.int (zI v.1)), mj_HN H2 ro2 tl2) ∧ RFr t H H2 ∧ TKp X Lt (lxp X Lt v.2.1.toNat) (H2 59) ∧ TXP (H2 62) ∧ (v.1 = 0 → MT tl3 (G2 53) (ro3 51 3) (ro3 51 4) (H2 62) t (G2 51 6) w1) := by
  intro k
  induction k with
  | zero =>
    intro G st ro tl n hn h0n hB hw h6 h0
    by_cases y : (kdx X Lt) st.2.1 = 0
    · refine ⟨n, G, st, ro, tl, [], q_lp_0 hB hw h0 y (by omega), by omega, hB, hw, ⟨fun _ _ => rfl, fun _ _ => rfl⟩, fun _ _ _ => rfl, (List.append_nil tl).symm, ⟨Nat.zero_le _, rws_nil⟩, fun _ => by omega, fun E2 H ro2 tl2 d2 w0 hH hM => ⟨H, w0, ?_, ⟨fun _ _ => rfl, fun _ _ => rfl, fun _ _ => rfl⟩, hH.2.1, hH.2.2.1, fun _ => hM⟩⟩
      rw [h0]
      exact m_lp_0 hH.1 hH.2.1 y
    · obtain ⟨G2, v, ro3, tl3, c1, c2, c3, c4, c5, c6, c7, c8, c9⟩ := R_cl (E := E) (ro := ro) (tl := tl) (d := d + 1) hB hw (by omega) h0 ht
      have q1 := q_lp_1 (d := d) hB hw h0 y (n := n) (by omega) c1
      obtain ⟨tz, z1, z2⟩ : ∃ tz : List mj_C, tl3 = tl ++ tz ∧ (tz.length ≤ 1 ∧ rws tz) := by
        rcases c7 with e | ⟨m, g, gm, e⟩
        · exact ⟨[], by rw [e, List.append_nil], Nat.zero_le _, rws_nil⟩
        · exact ⟨[rwA m g], e, Nat.le_refl _, rws_one gm⟩
      by_cases z : v.1 = 0
      · have := c8 z
        have i25 : G 51 6 = 24 := by omega
        omega
      · refine ⟨n + 1, G2, v, ro3, tl3, tz, by rw [q1, q_lp_f c3 z (by omega)], by omega, c2, c3, c4, c5, z1, ⟨by omega, z2.2⟩, fun q => absurd q z, fun E2 H ro2 tl2 d2 w0 hH hM => ?_⟩
        obtain ⟨H2, w1, e1, e2, e3, e4, e5⟩ := c9 E2 H ro2 tl2 d2 w0 hH hM
        have vb : 0 < v.1 ∧ v.1 ≤ 6 := by have := c3.1; have := c3.2.1; omega
        exact ⟨H2, w1, m_lp_f hH.1 hH.2.1 y vb e1, e2, e3, e4, fun q => absurd q z⟩
  | succ k ih =>
    intro G st ro tl n hn h0n hB hw h6 h0
    by_cases y : (kdx X Lt) st.2.1 = 0
    · refine ⟨n, G, st, ro, tl, [], q_lp_0 hB hw h0 y (by omega), by omega, hB, hw, ⟨fun _ _ => rfl, fun _ _ => rfl⟩, fun _ _ _ => rfl, (List.append_nil tl).symm, ⟨Nat.zero_le _, rws_nil⟩, fun _ => by omega, fun E2 H ro2 tl2 d2 w0 hH hM => ⟨H, w0, ?_, ⟨fun _ _ => rfl, fun _ _ => rfl, fun _ _ => rfl⟩, hH.2.1, hH.2.2.1, fun _ => hM⟩⟩
      rw [h0]
      exact m_lp_0 hH.1 hH.2.1 y
    · obtain ⟨G2, v, ro3, tl3, c1, c2, c3, c4, c5, c6, c7, c8, c9⟩ := R_cl (E := E) (ro := ro) (tl := tl) (d := d + 1) hB hw (by omega) h0 ht
      have q1 := q_lp_1 (d := d) hB hw h0 y (n := n) (by omega) c1
      obtain ⟨tz, z1, z2⟩ : ∃ tz : List mj_C, tl3 = tl ++ tz ∧ (tz.length ≤ 1 ∧ rws tz) := by
        rcases c7 with e | ⟨m, g, gm, e⟩
        · exact ⟨[], by rw [e, List.append_nil], Nat.zero_le _, rws_nil⟩
        · exact ⟨[rwA m g], e, Nat.le_refl _, rws_one gm⟩
      by_cases z : v.1 = 0
      · obtain ⟨m1, m2, m3⟩ := c8 z
        obtain ⟨n2, G3, v3, ro4, tl4, tz4, d1, d2', d3, d4, d5, d6, d7, d8, d9, d10⟩ := ih G2 v ro3 tl3 (n + 1) (by omega) (by omega) c2 c3 (by omega) z
        refine ⟨n2, G3, v3, ro4, tl4, tz ++ tz4, by rw [q1, d1], d2', d3, d4, ⟨fun c hc => (d5.1 c hc).trans (c4.1 c hc), fun j hj => (d5.2 j hj).trans (c4.2 j hj)⟩, fun c j hc => (d6 c j hc).trans (c5 c j hc), by rw [d7, z1, List.append_assoc], ⟨by rw [List.length_append]; omega, rws_ap z2.2 d8.2⟩, d9, fun E2 H ro2 tl2 d2 w0 hH hM => ?_⟩
        obtain ⟨H2, w1, e1, e2, e3, e4, e5⟩ := c9 E2 H ro2 tl2 d2 w0 hH hM
        obtain ⟨e6, e7⟩ := e5 z
        obtain ⟨H3, w3, f1, f2, f3, f4, f5⟩ := d10 E2 H2 ro2 tl2 d2 w1 e6 e7
        rw [z] at e1
        exact ⟨H3, w3, by rw [m_lp_1 hH.1 hH.2.1 y e1, f1], ⟨fun c hc => (f2.1 c hc).trans (e2.1 c hc), fun j hj => (f2.2.1 j hj).trans (e2.2.1 j hj), fun j hj => (f2.2.2 j hj).trans (e2.2.2 j hj)⟩, f3, f4, f5⟩
      · refine ⟨n + 1, G2, v, ro3, tl3, tz, by rw [q1, q_lp_f c3 z (by omega)], by omega, c2, c3, c4, c5, z1, ⟨by omega, z2.2⟩, fun q => absurd q z, fun E2 H ro2 tl2 d2 w0 hH hM => ?_⟩
        obtain ⟨H2, w1, e1, e2, e3, e4, e5⟩ := c9 E2 H ro2 tl2 d2 w0 hH hM
        have vb : 0 < v.1 ∧ v.1 ≤ 6 := by have := c3.1; have := c3.2.1; omega
        exact ⟨H2, w1, m_lp_f hH.1 hH.2.1 y vb e1, e2, e3, e4, fun q => absurd q z⟩
end P599997
