/-! a deed read by both is the same -/
def AL (st : pT) (s : rW) : Prop := st.1 = s.1 ∧ st.2.1 = s.2.1
theorem al_num {K V : Int → Int} {lo hi w : Int} {st : pT} {s : rW} (h : AL st s) : AL (pNum K V lo hi st) (rFig K V lo hi w s) := by
  obtain ⟨h1, h2⟩ := h
  unfold pNum rFig
  by_cases y : st.1 = 0
  · rw [if_pos (show s.1 = 0 by omega), ← h2]
    by_cases y2 : K st.2.1 = 2
    · rw [if_pos y2]
      by_cases y3 : V st.2.1 < lo ∨ hi < V st.2.1
      · have e : pFail 2 st = (2, st.2) := if_pos y
        rw [if_pos ⟨y, y2, y3⟩, if_pos y3, e, pExp_n (show (2 : Int) ≠ 0 by omega)]
        exact ⟨rfl, h2⟩
      · have e : pExp K 2 st = pAdv st := if_pos ⟨y, y2⟩
        rw [if_neg (fun q => y3 q.2.2), if_neg y3, e]
        exact ⟨y, rfl⟩
    · rw [if_neg (fun q => y2 q.2.1), if_neg y2]
      have e : pExp K 2 st = (1, st.2) := by
        unfold pExp
        rw [if_neg (fun q => y2 q.2)]
        exact if_pos y
      rw [e]
      exact ⟨rfl, h2⟩
  · rw [if_neg (show ¬ s.1 = 0 by omega), if_neg (fun q => y q.1), pExp_n y]
    exact ⟨h1, h2⟩
theorem al_wd {K : Int → Int} {kw : Int} {st : pT} {s : rW} (h : AL st s) : AL (pExp K kw st) (rWd K kw s) := by
  obtain ⟨h1, h2⟩ := h
  unfold rWd
  by_cases y : st.1 = 0
  · rw [if_pos (show s.1 = 0 by omega), ← h2]
    by_cases y2 : K st.2.1 = kw
    · have e : pExp K kw st = pAdv st := if_pos ⟨y, y2⟩
      rw [if_pos y2, e]
      exact ⟨y, rfl⟩
    · have e : pExp K kw st = (1, st.2) := by
        unfold pExp
        rw [if_neg (fun q => y2 q.2)]
        exact if_pos y
      rw [if_neg y2, e]
      exact ⟨rfl, h2⟩
  · rw [if_neg (show ¬ s.1 = 0 by omega), pExp_n y]
    exact ⟨h1, h2⟩
theorem fig_ok {K V : Int → Int} {lo hi w : Int} {s : rW} (h : (rFig K V lo hi w s).1 = 0) : s.1 = 0 ∧ K s.2.1 = 2 ∧ lo ≤ V s.2.1 ∧ V s.2.1 ≤ hi ∧ (rFig K V lo hi w s).2.2 w = V s.2.1 ∧ (rFig K V lo hi w s).2.1 = s.2.1 + 1 := by
  unfold rFig at h ⊢
  by_cases y : s.1 = 0
  · rw [if_pos y] at h ⊢
    by_cases y2 : K s.2.1 = 2
    · rw [if_pos y2] at h ⊢
      by_cases y3 : V s.2.1 < lo ∨ hi < V s.2.1
      · rw [if_pos y3] at h
        exact absurd h (by show ¬ (2 : Int) = 0; omega)
      · rw [if_neg y3]
        exact ⟨y, y2, by omega, by omega, up_e rfl, rfl⟩
    · rw [if_neg y2] at h
      exact absurd h (by show ¬ (1 : Int) = 0; omega)
  · rw [if_neg y] at h
    exact absurd h y
theorem wd_ok {K : Int → Int} {kw : Int} {s : rW} (h : (rWd K kw s).1 = 0) : s.1 = 0 ∧ (rWd K kw s).2.1 = s.2.1 + 1 ∧ (rWd K kw s).2.2 = s.2.2 := by
  unfold rWd at h ⊢
  by_cases y : s.1 = 0
  · rw [if_pos y] at h ⊢
    by_cases y2 : K s.2.1 = kw
    · rw [if_pos y2]
      exact ⟨y, rfl, rfl⟩
    · rw [if_neg y2] at h
      exact absurd h (by show ¬ (1 : Int) = 0; omega)
  · rw [if_neg y] at h
    exact absurd h y
theorem deed_same {K V : Int → Int} {k t0 c : Int} {T : Int → Int} {st : pT} (h0 : st.1 = 0) {u : rW} (hu : rE K V k t0 c st.2.1 T = u) (hc : 0 ≤ c) : AL (dC K V k (pAdv st)) u ∧ (u.1 = 0 → st.2.1 < u.2.1 ∧ u.2.2 t0 = c + 1 ∧ u.2.2 (t0 + 1 + 3 * c) = srt k ∧ u.2.2 (t0 + 1 + 3 * c + 1) = V (st.2.1 + 1) ∧ (dq k).1 ≤ V (st.2.1 + 1) ∧ V (st.2.1 + 1) ≤ (dq k).2.1 ∧ ((dq k).2.2.1 ≠ 0 → (dq k).1 = 0 → u.2.2 (t0 + 1 + 3 * c + 2) = dv K V k (pAdv st) ∧ 0 ≤ dv K V k (pAdv st) ∧ dv K V k (pAdv st) ≤ (dq k).2.2.2) ∧ ∀ j : Int, j ≠ t0 → j ≠ t0 + 1 + 3 * c → j ≠ t0 + 1 + 3 * c + 1 → j ≠ t0 + 1 + 3 * c + 2 → u.2.2 j = T j) := by
  have a0 : AL (pAdv st) (0, st.2.1 + 1, up T (t0 + 1 + 3 * c) (srt k)) := ⟨h0, rfl⟩
  have l1 : (dq k).2.2.1 ≠ 0 → (dq k).1 = 0 := by
    unfold dq
    (repeat' split) <;> first | (intro _; rfl) | (intro q; exact absurd rfl q)
  have aD : AL (dB K V k (pAdv st)) (rD K V k (t0 + 1 + 3 * c) (0, st.2.1 + 1, up T (t0 + 1 + 3 * c) (srt k))) := by
    unfold dB rD dA
    by_cases y : (dq k).2.2.1 = 0
    · rw [if_pos y, if_pos y]
      exact al_num a0
    · rw [if_neg y, if_neg y, l1 y]
      exact al_num (al_wd (al_num a0))
  have tD : ∀ j : Int, j ≠ t0 + 1 + 3 * c + 1 → j ≠ t0 + 1 + 3 * c + 2 → (rD K V k (t0 + 1 + 3 * c) (0, st.2.1 + 1, up T (t0 + 1 + 3 * c) (srt k))).2.2 j = up T (t0 + 1 + 3 * c) (srt k) j := fun j h1 h2 => rD_t h1 h2
  have oD : (rD K V k (t0 + 1 + 3 * c) (0, st.2.1 + 1, up T (t0 + 1 + 3 * c) (srt k))).1 = 0 → (rD K V k (t0 + 1 + 3 * c) (0, st.2.1 + 1, up T (t0 + 1 + 3 * c) (srt k))).2.2 (t0 + 1 + 3 * c + 1) = V (st.2.1 + 1) ∧ (dq k).1 ≤ V (st.2.1 + 1) ∧ V (st.2.1 + 1) ≤ (dq k).2.1 ∧ st.2.1 < (rD K V k (t0 + 1 + 3 * c) (0, st.2.1 + 1, up T (t0 + 1 + 3 * c) (srt k))).2.1 ∧ ((dq k).2.2.1 ≠ 0 → (dq k).1 = 0 → (rD K V k (t0 + 1 + 3 * c) (0, st.2.1 + 1, up T (t0 + 1 + 3 * c) (srt k))).2.2 (t0 + 1 + 3 * c + 2) = dv K V k (pAdv st) ∧ 0 ≤ dv K V k (pAdv st) ∧ dv K V k (pAdv st) ≤ (dq k).2.2.2) := by
    intro hz
    unfold rD at hz ⊢
    unfold dv dA
    by_cases y : (dq k).2.2.1 = 0
    · rw [if_pos y] at hz ⊢
      obtain ⟨_, _, b1, b2, b3, b4⟩ := fig_ok hz
      exact ⟨b3, b1, b2, by rw [b4]; show st.2.1 < st.2.1 + 1 + 1; omega, fun q => absurd y q⟩
    · rw [if_neg y] at hz ⊢
      rw [if_neg y, l1 y]
      obtain ⟨c0, _, c1, c2, c3, c4⟩ := fig_ok hz
      obtain ⟨d0, d1, d2⟩ := wd_ok c0
      obtain ⟨_, _, b1, b2, b3, b4⟩ := fig_ok d0
      have a1 := (al_wd (K := K) (kw := (dq k).2.2.1) (al_num (K := K) (V := V) (lo := 0) (hi := (dq k).2.1) (w := t0 + 1 + 3 * c + 1) a0)).2
      refine ⟨by rw [rFig_t (by omega), d2]; exact b3, b1, b2, by rw [c4, d1, b4]; show st.2.1 < st.2.1 + 1 + 1 + 1 + 1; omega, fun _ _ => ?_⟩
      rw [a1]
      exact ⟨c3, c1, c2⟩
  unfold rE at hu
  unfold dC
  generalize rD K V k (t0 + 1 + 3 * c) (0, st.2.1 + 1, up T (t0 + 1 + 3 * c) (srt k)) = sb at *
  have aE : AL (dB K V k (pAdv st)) (if sb.1 = 0 then (0, sb.2.1, up sb.2.2 t0 (c + 1)) else sb) := by
    split
    · rename_i z; exact ⟨by rw [aD.1, z], aD.2⟩
    · exact aD
  refine ⟨by rw [← hu]; exact al_wd aE, fun z => ?_⟩
  rw [← hu] at z
  obtain ⟨e0, e1, e2⟩ := wd_ok z
  by_cases y : sb.1 = 0
  · rw [if_pos y] at hu e1 e2
    obtain ⟨o1, o2, o3, o4, o5⟩ := oD y
    rw [hu] at e1 e2
    dsimp only at e1 e2
    refine ⟨by omega, by rw [e2, up_e rfl], by rw [e2, up_n (by omega), tD _ (by omega) (by omega), up_e rfl], by rw [e2, up_n (by omega)]; exact o1, o2, o3, fun q1 q2 => by rw [e2, up_n (by omega)]; exact o5 q1 q2, fun j h1 h2 h3 h4 => by rw [e2, up_n h1, tD j h3 h4, up_n h2]⟩
  · rw [if_neg y] at e0
    exact absurd e0 y
